/-! the reference: sets -/
section RFS
variable {g : Nat → Int32} {h : Nat → Nat} {gd gr : Nat → Int32} {post : Int32 → Prop}
theorem m_defeatedBy (hw : ag 43 g h) (H : hv h) (hgd : ag 8 gd (dft h)) {s : Nat} (hs : s < 256) (hp : post (nI (btn h s))) : wp_X11_defeatedBy post g gd (nI s) := by
  have h8 := H.1
  unfold wp_X11_defeatedBy
  refine loop_0 (fun n i v => wp_X11_defeatedBy_4 post g gd (nI s) n v (nI i)) (fun i v => v = nI (rch (dft h) s i)) (h 42) _ rfl ?_ ?_
  · intro n v hv_
    subst hv_
    show wp_X11_defeatedBy_4 _ _ _ _ _ _ _
    unfold wp_X11_defeatedBy_4
    refine ⟨vp_in_nI (by decide) (by decide), ?_⟩
    rw [hw.rd (by decide) (by decide)]
    refine wt (nI_le (Nat.le_refl _) (by omega)) ?_
    rw [← rch_ge 8 h8 (fun i h1 h2 => dft_un (hd_ge H h1))]
    exact hp
  · intro n i v hi hv_ ih
    subst hv_
    show wp_X11_defeatedBy_4 _ _ _ _ _ _ _
    unfold wp_X11_defeatedBy_4
    refine ⟨vp_in_nI (by decide) (by decide), ?_⟩
    rw [hw.rd (by decide) (by decide), nS, nx_or]
    refine wf (nI_ge hi (by omega)) ?_
    refine m_has (by omega) (by omega) ?_
    refine zc (fun q => ih _ ?_) (fun q => ⟨vp_in_nI (by omega) (by decide), ?_⟩)
    · rw [rch_s, q]; rfl
    · rw [hgd.rd (by omega) (by decide), nx_or]
      refine ih _ ?_
      rw [rch_s, q]; rfl
theorem m_isFree (hw : ag 43 g h) (H : hv h) (hgd : ag 8 gd (dft h)) {s : Nat} (hs : s < 256) (hp : post (zI (freeB h s))) : wp_X11_isFree post g gd (nI s) := by
  unfold wp_X11_isFree
  refine ⟨vp_in_nI (by decide) (by decide), ?_⟩
  have l1 := dif_lt hs (h 40)
  rw [hw.rd (by decide) (by decide), nx_dif hs]
  unfold freeB at hp
  refine wc2 (nI_eq0 (by omega)) (fun c => ?_) (fun c => ?_)
  · refine m_defeatedBy hw H hgd hs ?_
    have l2 := and_lt8' (btn h s) hs
    rw [nx_and]
    refine zs2 ?_ hp
    rw [nI_eq0 (by omega)]
    simp [c]
  · rw [decide_eq_false c] at hp; exact hp
theorem m_keeps (hw : ag 43 g h) (H : hv h) (hgd : ag 8 gd (dft h)) (hgr : ag 8 gr (dfr h)) {s c : Nat} (hs : s < 256) (hc : c < 8) (hp : post (zI (decide (dif (dfr h c) (btn h s) = 0)))) : wp_X11_keeps post g gd gr (nI s) (nI c) := by
  unfold wp_X11_keeps
  refine ⟨vp_in_nI hc (by decide), ?_⟩
  refine m_defeatedBy hw H hgd hs ?_
  have l0 := dfr_r8 h c hc
  have l1 := dif_lt l0 (btn h s)
  rw [hgr.rd hc (by decide), nx_dif l0]
  refine zs2 ?_ hp
  rw [nI_eq0 (by omega), decide_eq_true_iff]
/-- all claims of the set below n are kept -/
def kpB (h : Nat → Nat) (s : Nat) : Nat → Bool
  | 0 => true
  | n + 1 => kpB h s n && (!s.testBit n || decide (dif (dfr h n) (btn h s) = 0))
theorem kpB_iff {h : Nat → Nat} {s n : Nat} : kpB h s n = true ↔ ∀ c, c < n → s.testBit c = true → dif (dfr h c) (btn h s) = 0 := by
  induction n with
  | zero => simp [kpB]
  | succ n ih =>
    rw [kpB, Bool.and_eq_true, ih]
    constructor
    · rintro ⟨h1, h2⟩ c hc hb
      rcases Nat.lt_or_ge c n with z | z
      · exact h1 c z hb
      · have : c = n := by omega
        subst this
        rw [hb] at h2
        simpa using h2
    · intro h1
      refine ⟨fun c hc hb => h1 c (by omega) hb, ?_⟩
      cases z : s.testBit n
      · rfl
      · rw [decide_eq_true (h1 n (by omega) z)]; rfl
theorem safe_kp (H : hv h) (s : Nat) : kpB h s (h 42) = safeB h s := by
  have l0 : rch (dfr h) s 8 < 256 := rch_lt (fun i hi => dfr_r8 h i hi) s
  have e : safeB h s = true ↔ kpB h s (h 42) = true := by
    unfold safeB
    rw [decide_eq_true_iff, dif_0 l0, kpB_iff]
    constructor
    · intro q c hc hb
      have h8 := H.1
      rw [dif_0 (dfr_r8 h c (by omega))]
      intro i hi hb2
      exact q i hi ((rch_tb _ _ _ _).mpr ⟨c, by omega, hb, hb2⟩)
    · intro q i hi hb
      obtain ⟨c, hc, h1, h2⟩ := (rch_tb _ _ _ _).mp hb
      rcases Nat.lt_or_ge c (h 42) with z | z
      · exact (dif_0 (dfr_r8 h c hc)).mp (q c z h1) i hi h2
      · rw [dfr_un (hd_ge H z), Nat.zero_testBit] at h2
        exact absurd h2 (by decide)
  cases z : safeB h s
  · cases z2 : kpB h s (h 42)
    · rfl
    · rw [e.mpr z2] at z; exact absurd z (by decide)
  · exact e.mp z
theorem m_isAdm (hw : ag 43 g h) (H : hv h) (hgd : ag 8 gd (dft h)) (hgr : ag 8 gr (dfr h)) {s : Nat} (hs : s < 256) (hp : post (zI (admB h s))) : wp_X11_isAdmissible post g gd gr (nI s) := by
  have h8 := H.1
  unfold wp_X11_isAdmissible
  refine m_isFree hw H hgd hs ?_
  refine loop_0 (fun n i v => wp_X11_isAdmissible_8 post g gd gr (nI s) n v (nI i)) (fun i v => v = zI (freeB h s && kpB h s i)) (h 42) _ (by rw [kpB, Bool.and_true]) ?_ ?_
  · intro n v hv_
    subst hv_
    show wp_X11_isAdmissible_8 _ _ _ _ _ _ _ _
    unfold wp_X11_isAdmissible_8
    refine ⟨vp_in_nI (by decide) (by decide), ?_⟩
    rw [hw.rd (by decide) (by decide)]
    refine wt (nI_le (Nat.le_refl _) (by omega)) ⟨zI_Z _, ?_⟩
    rw [safe_kp H]
    exact hp
  · intro n i v hi hv_ ih
    subst hv_
    show wp_X11_isAdmissible_8 _ _ _ _ _ _ _ _
    unfold wp_X11_isAdmissible_8
    refine ⟨vp_in_nI (by decide) (by decide), ?_⟩
    rw [hw.rd (by decide) (by decide), nS]
    refine wf (nI_ge hi (by omega)) ?_
    refine zc (fun q => ?_) (fun q => ?_)
    · rw [q]
      refine ⟨zI_Z _, ?_⟩
      have : admB h s = false := by
        unfold admB
        rw [Bool.and_eq_false_iff] at q
        rcases q with q | q
        · rw [q]; rfl
        · have : safeB h s = false := by
            rw [← safe_kp H]
            cases z : kpB h s (h 42)
            · rfl
            · rw [kpB_iff.mpr (fun c hc hb => kpB_iff.mp z c (by omega) hb)] at q; exact absurd q (by decide)
          rw [this, Bool.and_false]
      rw [this] at hp
      exact hp
    · rw [Bool.and_eq_true] at q
      refine m_has (by omega) (by omega) ?_
      refine zc (fun q2 => ih (nI 1) ?_) (fun q2 => ?_)
      · rw [kpB, q.1, q.2, q2]; rfl
      · refine m_keeps hw H hgd hgr hs (by omega) ?_
        refine zc (fun q3 => ih (nI 0) ?_) (fun q3 => ih (nI 1) ?_)
        · rw [kpB, q.1, q.2, q2, q3]; rfl
        · rw [kpB, q.1, q.2, q2, q3]; rfl
/-- no claim below n that is heard, isn't of the set and is kept -/
def fuB (h : Nat → Nat) (s : Nat) : Nat → Bool
  | 0 => true
  | n + 1 => fuB h s n && (!hd h n || (s.testBit n || !decide (dif (dfr h n) (btn h s) = 0)))
theorem fuB_iff {h : Nat → Nat} {s n : Nat} : fuB h s n = true ↔ ∀ c, c < n → hd h c = true → dif (dfr h c) (btn h s) = 0 → s.testBit c = true := by
  induction n with
  | zero => simp [fuB]
  | succ n ih =>
    rw [fuB, Bool.and_eq_true, ih]
    constructor
    · rintro ⟨h1, h2⟩ c hc hb hk
      rcases Nat.lt_or_ge c n with z | z
      · exact h1 c z hb hk
      · have : c = n := by omega
        subst this
        rw [hb, decide_eq_true hk] at h2
        simpa using h2
    · intro h1
      refine ⟨fun c hc hb hk => h1 c (by omega) hb hk, ?_⟩
      cases z : hd h n
      · rfl
      · cases z2 : s.testBit n
        · rw [decide_eq_false (fun q => by have := h1 n (by omega) z q; rw [z2] at this; exact absurd this (by decide))]; rfl
        · rfl
theorem full_fu (H : hv h) {s : Nat} : fuB h s (h 42) = decide (dif (dfd h s) s = 0) := by
  have l0 : dfd h s < 256 := and_lt8' _ H.heard
  have h8 := H.1
  have e : decide (dif (dfd h s) s = 0) = true ↔ fuB h s (h 42) = true := by
    rw [decide_eq_true_iff, dif_0 l0, fuB_iff]
    constructor
    · intro q c hc hb hk
      refine q c (by omega) ?_
      unfold dfd
      rw [Nat.testBit_and, bs_tb, decide_eq_true (show c < 8 by omega), decide_eq_true hk]
      exact hb
    · intro q i hi hb
      unfold dfd at hb
      rw [Nat.testBit_and, bs_tb, decide_eq_true hi, Bool.true_and, Bool.and_eq_true] at hb
      exact q i (H.hd_lt hb.2) hb.2 (of_decide_eq_true hb.1)
  cases z : decide (dif (dfd h s) s = 0)
  · cases z2 : fuB h s (h 42)
    · rfl
    · rw [e.mpr z2] at z; exact absurd z (by decide)
  · exact e.mp z
theorem m_isCom (hw : ag 43 g h) (H : hv h) (hgd : ag 8 gd (dft h)) (hgr : ag 8 gr (dfr h)) {s : Nat} (hs : s < 256) (hp : post (zI (comB h s))) : wp_X11_isComplete post g gd gr (nI s) := by
  have h8 := H.1
  unfold wp_X11_isComplete
  refine m_isAdm hw H hgd hgr hs ?_
  refine loop_0 (fun n i v => wp_X11_isComplete_8 post g gd gr (nI s) n v (nI i)) (fun i v => v = zI (admB h s && fuB h s i)) (h 42) _ (by rw [fuB, Bool.and_true]) ?_ ?_
  · intro n v hv_
    subst hv_
    show wp_X11_isComplete_8 _ _ _ _ _ _ _ _
    unfold wp_X11_isComplete_8
    refine ⟨vp_in_nI (by decide) (by decide), ?_⟩
    rw [hw.rd (by decide) (by decide)]
    refine wt (nI_le (Nat.le_refl _) (by omega)) ⟨zI_Z _, ?_⟩
    rw [full_fu H]
    exact hp
  · intro n i v hi hv_ ih
    subst hv_
    show wp_X11_isComplete_8 _ _ _ _ _ _ _ _
    unfold wp_X11_isComplete_8
    refine ⟨vp_in_nI (by decide) (by decide), ?_⟩
    rw [hw.rd (by decide) (by decide), nS]
    refine wf (nI_ge hi (by omega)) ?_
    refine zc (fun q => ?_) (fun q => ?_)
    · rw [q]
      refine ⟨zI_Z _, ?_⟩
      have : comB h s = false := by
        unfold comB
        rw [← full_fu H]
        rw [Bool.and_eq_false_iff] at q
        rcases q with q | q
        · rw [q]; rfl
        · cases z : fuB h s (h 42)
          · rw [Bool.and_false]
          · rw [fuB_iff.mpr (fun c hc hb => fuB_iff.mp z c (by omega) hb)] at q; exact absurd q (by decide)
      rw [this] at hp
      exact hp
    · rw [Bool.and_eq_true] at q
      refine m_isHeard hw H.heard (by omega) ?_
      refine zc (fun q1 => ih (nI 1) ?_) (fun q1 => ?_)
      · rw [fuB, q.1, q.2, q1]; rfl
      · refine m_has (by omega) (by omega) ?_
        refine zc2 (fun q2 => ?_) (fun q2 => ih (nI 1) ?_)
        · refine m_keeps hw H hgd hgr hs (by omega) ?_
          refine zc2 (fun q3 => ih (nI 1) ?_) (fun q3 => ih (nI 0) ?_)
          · rw [fuB, q.1, q.2, q1, q2, q3]; rfl
          · rw [fuB, q.1, q.2, q1, q2, q3]; rfl
        · rw [fuB, q.1, q.2, q1, q2]; rfl
theorem sta_eq (H : hv h) {s : Nat} (hs : s < 256) : staB h s = (freeB h s && decide (dif (dif (h 40) s) (btn h s) = 0)) := by
  have l1 := btn_lt H s
  have l2 := dif_lt H.heard s
  unfold staB freeB
  by_cases c : dif s (h 40) = 0
  · rw [decide_eq_true c, Bool.true_and, Bool.true_and]
    by_cases c2 : btn h s = dif (h 40) s
    · rw [decide_eq_true c2, c2]
      have e1 : dif (h 40) s &&& s = 0 := (and_0 l2).mpr (fun i hi hb => by
        rw [dif_tb H.heard, Bool.and_eq_true] at hb
        simpa using hb.2)
      have e2 : dif (dif (h 40) s) (dif (h 40) s) = 0 := (dif_0 l2).mpr (fun i hi hb => hb)
      rw [decide_eq_true e1, decide_eq_true e2]; rfl
    · rw [decide_eq_false c2]
      cases z : (decide (btn h s &&& s = 0) && decide (dif (dif (h 40) s) (btn h s) = 0))
      · rfl
      · rw [Bool.and_eq_true, decide_eq_true_iff, decide_eq_true_iff] at z
        refine absurd (tb8_ext l1 l2 (fun i hi => ?_)) c2
        rw [dif_tb H.heard]
        cases z1 : (btn h s).testBit i
        · cases z2 : (dif (h 40) s).testBit i
          · rw [dif_tb H.heard] at z2; rw [z2]
          · rw [(dif_0 l2).mp z.2 i hi z2] at z1; exact absurd z1 (by decide)
        · have h1 : hd h i = true := btn_in z1
          have h2 := (and_0 l1).mp z.1 i hi z1
          rw [show (h 40).testBit i = true from h1, h2]; rfl
  · rw [decide_eq_false c]; rfl
theorem m_isSta (hw : ag 43 g h) (H : hv h) (hgd : ag 8 gd (dft h)) {s : Nat} (hs : s < 256) (hp : post (zI (staB h s))) : wp_X11_isStable post g gd (nI s) := by
  unfold wp_X11_isStable
  rw [sta_eq H hs] at hp
  refine m_isFree hw H hgd hs ?_
  refine zc (fun q => ?_) (fun q => ⟨vp_in_nI (by decide) (by decide), ?_⟩)
  · rw [q] at hp; exact hp
  · rw [q, Bool.true_and] at hp
    refine m_defeatedBy hw H hgd hs ?_
    have l1 := dif_lt H.heard s
    have l2 := dif_lt l1 (btn h s)
    rw [hw.rd (by decide) (by decide), nx_dif H.heard, nx_dif l1]
    refine zs2 ?_ hp
    rw [nI_eq0 (by omega), decide_eq_true_iff]
end RFS
section RFT
variable {g : Nat → Int32} {h : Nat → Nat} {gd gr : Nat → Int32}
theorem m_findsPlain (hw : ag 43 g h) (H : hv h) (hgd : ag 8 gd (dft h)) (hgr : ag 8 gr (dfr h)) {sort : Nat} (hst : sort ≤ 5) (h3 : ¬ sort = 3) {gi : Nat → Int32} {post : (Nat → Int32) → Prop} (hp : ∀ gi, az 256 gi (plB h sort) → post gi) : wp_X11_findsPlain post g gd gr gi (nI sort) := by
  have e : ∀ n : Nat, n ≤ 5 → (nI sort = nI n ↔ sort = n) := fun n hn => nI_eq (by omega) (by omega)
  have e0 : nI sort = 0 ↔ sort = 0 := nI_eq0 (by omega)
  unfold wp_X11_findsPlain
  refine loop_0 (fun n i v => wp_X11_findsPlain_2 post g gd gr (nI sort) n (nI i) v) (fun i v => az i v (plB h sort)) 256 gi az0 ?_ ?_
  · intro n v hv_
    show wp_X11_findsPlain_2 _ _ _ _ _ _ _ _
    unfold wp_X11_findsPlain_2
    exact wt (nI_le (Nat.le_refl _) (by decide)) (hp _ hv_)
  · intro n i v hi hv_ ih
    show wp_X11_findsPlain_2 _ _ _ _ _ _ _ _
    unfold wp_X11_findsPlain_2
    refine wf (nI_ge hi (by decide)) ?_
    rw [nS]
    have vi : vp_in (nI i) 256 := vp_in_nI hi (by decide)
    refine wc2 e0 (fun c0 => ?_) (fun c0 => ?_)
    · refine m_isFree hw H hgd hi ⟨vi, ih _ (hv_.put (by omega) ?_)⟩
      unfold plB; rw [if_pos c0]
    · refine wc2 (e 4 (by decide)) (fun c4 => ?_) (fun c4 => ?_)
      · refine m_isSta hw H hgd hi ⟨vi, ih _ (hv_.put (by omega) ?_)⟩
        unfold plB; rw [c4]; rfl
      · refine wc2 (e 1 (by decide)) (fun c1 => ?_) (fun c1 => ?_)
        · refine m_isAdm hw H hgd hgr hi ⟨vi, ih _ (hv_.put (by omega) ?_)⟩
          unfold plB; rw [c1]; rfl
        · refine m_isCom hw H hgd hgr hi ⟨vi, ih _ (hv_.put (by omega) ?_)⟩
          unfold plB; rw [if_neg c0, if_neg (by omega), if_neg c4]
theorem m_rangeOf (hw : ag 43 g h) (H : hv h) (hgd : ag 8 gd (dft h)) {s : Nat} (hs : s < 256) {w : Bool} {post : Int32 → Prop} (hp : post (nI (ran h w s))) : wp_X11_rangeOf post g gd (nI s) (zI w) := by
  unfold wp_X11_rangeOf
  refine zc (fun q => ?_) (fun q => ?_)
  · subst q; exact hp
  · subst q
    refine m_defeatedBy hw H hgd hs ?_
    rw [nx_or]
    exact hp
theorem m_isBehind (hw : ag 43 g h) (H : hv h) (hgd : ag 8 gd (dft h)) {gs : Nat → Int32} {p : Nat → Bool} (hgs : az 256 gs p) {s : Nat} (hs : s < 256) {w : Bool} {post : Int32 → Prop} (hp : post (zI (behB h p w (ran h w s)))) : wp_X11_isBehind post g gd gs (nI s) (zI w) := by
  unfold wp_X11_isBehind
  refine m_rangeOf hw H hgd hs ?_
  have lx := ran_lt H w hs
  generalize ran h w s = x at hp lx ⊢
  have key : (∀ i, i < 256 → (p i && (decide (dif x (ran h w i) = 0) && !decide (x = ran h w i))) = false) → post (nI 0) := fun q => by
    have : behB h p w x = false := anB_f.mpr q
    rw [this] at hp; exact hp
  refine loop_0 (fun n i (_ : Unit) => wp_X11_isBehind_10 post g gd gs (nI s) (zI w) n (nI x) (nI i)) (fun i _ => ∀ j, j < i → (p j && (decide (dif x (ran h w j) = 0) && !decide (x = ran h w j))) = false) 256 () (fun j hj => absurd hj (Nat.not_lt_zero j)) ?_ ?_
  · intro n _ hv_
    show wp_X11_isBehind_10 _ _ _ _ _ _ _ _ _
    unfold wp_X11_isBehind_10
    exact wt (nI_le (Nat.le_refl _) (by decide)) (key hv_)
  · intro n i _ hi hv_ ih
    show wp_X11_isBehind_10 _ _ _ _ _ _ _ _ _
    unfold wp_X11_isBehind_10
    refine wf (nI_ge hi (by decide)) ⟨vp_in_nI hi (by decide), ?_⟩
    rw [hgs.rd hi (by decide), nS]
    have nxt : (p i && (decide (dif x (ran h w i) = 0) && !decide (x = ran h w i))) = false → wp_X11_isBehind_10 post g gd gs (nI s) (zI w) n (nI x) (nI (i + 1)) := fun q => ih () (fun j hj => by
      rcases Nat.lt_or_ge j i with z | z
      · exact hv_ j z
      · rw [show j = i by omega]; exact q)
    refine zc (fun q => nxt (by rw [q]; rfl)) (fun q => ?_)
    have li := ran_lt H w hi
    have ld := dif_lt lx (ran h w i)
    refine m_rangeOf hw H hgd hi ?_
    rw [nx_dif lx]
    refine wc2 (nI_eq0 (by omega)) (fun c => ?_) (fun c => nxt (by rw [decide_eq_false c]; simp))
    refine m_rangeOf hw H hgd hi ?_
    refine wc (nI_eq (by omega) (by omega)) (fun c2 => nxt (by rw [decide_eq_true c2]; simp)) (fun c2 => ?_)
    have : behB h p w x = true := anB_iff.mpr ⟨i, hi, by rw [q, decide_eq_true c, decide_eq_false c2]; rfl⟩
    rw [this] at hp
    exact hp
theorem m_finds (hw : ag 43 g h) (H : hv h) (hgd : ag 8 gd (dft h)) (hgr : ag 8 gr (dfr h)) {sort : Nat} (hst : sort ≤ 5) {gi gs : Nat → Int32} {post : (Nat → Int32) → (Nat → Int32) → Prop} (hp : ∀ gi gs, az 256 gi (srt h sort) → post gi gs) : wp_X11_finds post g gd gr gi gs (nI sort) := by
  have e : ∀ n : Nat, n ≤ 5 → (nI sort = nI n ↔ sort = n) := fun n hn => nI_eq (by omega) (by omega)
  have e36 : (sort = 3 ∨ sort = 5) → ∀ gi, az 256 gi (plB h sort) → ∃ n, wp_X11_finds_36 post g gd gr (nI sort) n (nI 0) gi gs := by
    intro z gi hgi
    refine loop_0 (fun n i v => wp_X11_finds_36 post g gd gr (nI sort) n (nI i) gi v) (fun i v => az i v (plB h sort)) 256 gs az0 ?_ ?_
    · intro n v hv_
      show wp_X11_finds_36 _ _ _ _ _ _ _ _ _
      unfold wp_X11_finds_36
      refine wt (nI_le (Nat.le_refl _) (by decide)) ?_
      refine loop_0 (fun n i u => wp_X11_finds_63 post g gd gr (nI sort) n (nI i) u v) (fun i u => az i u (srt h sort)) 256 gi az0 ?_ ?_
      · intro n u hu
        show wp_X11_finds_63 _ _ _ _ _ _ _ _ _
        unfold wp_X11_finds_63
        exact wt (nI_le (Nat.le_refl _) (by decide)) (hp _ _ hu)
      · intro n i u hi hu ih
        show wp_X11_finds_63 _ _ _ _ _ _ _ _ _
        unfold wp_X11_finds_63
        have vi : vp_in (nI i) 256 := vp_in_nI hi (by decide)
        refine wf (nI_ge hi (by decide)) ⟨vi, ?_⟩
        rw [hv_.rd hi (by decide), nS]
        have es : srt h sort i = (plB h sort i && !behB h (plB h sort) (decide (sort = 5)) (ran h (decide (sort = 5)) i)) := by unfold srt; rw [if_pos z]
        refine zc (fun q => ⟨vi, ih _ (hu.put (b := false) (by omega) (by rw [es, q]; rfl))⟩) (fun q => ?_)
        have e96 : ∀ w : Bool, w = decide (sort = 5) → wp_X11_finds_96 post g gd gr (nI sort) (wp_X11_finds_63 post g gd gr (nI sort) n) (nI i) u v (zI w) (nI i) (nI i) := by
          intro w hw_
          unfold wp_X11_finds_96
          rw [nS]
          refine m_isBehind hw H hgd hv_ hi ?_
          refine zc2 (fun q2 => ⟨vi, ih _ (hu.put (b := true) (by omega) ?_)⟩) (fun q2 => ⟨vi, ih _ (hu.put (b := false) (by omega) ?_)⟩)
          · rw [es, q, ← hw_, q2]; rfl
          · rw [es, q, ← hw_, q2]; rfl
        exact wc2 (e 5 (by decide)) (fun c => e96 true (decide_eq_true c).symm) (fun c => e96 false (decide_eq_false c).symm)
    · intro n i v hi hv_ ih
      show wp_X11_finds_36 _ _ _ _ _ _ _ _ _
      unfold wp_X11_finds_36
      have vi : vp_in (nI i) 256 := vp_in_nI hi (by decide)
      refine wf (nI_ge hi (by decide)) ⟨vi, vi, ?_⟩
      rw [nS, hgi.rd hi (by decide)]
      exact ih _ (hv_.put (by omega) rfl)
  have e20 : ∀ k : Nat, k ≤ 5 → ¬ k = 3 → (∀ s, plB h k s = plB h sort s) → wp_X11_finds_20 post g gd gr (nI sort) gi gs (nI k) := by
    intro k hk h3 hpl
    unfold wp_X11_finds_20
    refine m_findsPlain hw H hgd hgr hk h3 (fun gi hgi => ?_)
    have hgi' : az 256 gi (plB h sort) := hgi.cg (fun j _ => hpl j)
    refine wc (e 3 (by decide)) (fun c => e36 (Or.inl c) gi hgi') (fun c => ?_)
    refine wc (e 5 (by decide)) (fun c2 => e36 (Or.inr c2) gi hgi') (fun c2 => ?_)
    refine hp _ _ (hgi'.cg (fun j hj => ?_))
    unfold srt; rw [if_neg (fun z => z.elim c c2)]; simp
  unfold wp_X11_finds
  refine wc2 (e 3 (by decide)) (fun c => e20 1 (by decide) (by decide) (fun s => ?_)) (fun c => ?_)
  · unfold plB; rw [c]; rfl
  · refine wc2 (e 5 (by decide)) (fun c2 => e20 2 (by decide) (by decide) (fun s => ?_)) (fun c2 => e20 sort hst c (fun s => rfl))
    unfold plB; rw [c2]; rfl
end RFT
section RFU
variable {g : Nat → Int32} {p : Nat → Bool} {post : Int32 → Prop}
theorem m_found (hg : az 256 g p) (hp : post (nI (cnt p 256))) : wp_X11_found post g := by
  unfold wp_X11_found
  refine loop_0 (fun n i v => wp_X11_found_4 post g n v (nI i)) (fun i v => v = nI (cnt p i)) 256 _ rfl ?_ ?_
  · intro n v hv_
    subst hv_
    show wp_X11_found_4 _ _ _ _ _
    unfold wp_X11_found_4
    exact wt (nI_le (Nat.le_refl _) (by decide)) hp
  · intro n i v hi hv_ ih
    subst hv_
    show wp_X11_found_4 _ _ _ _ _
    unfold wp_X11_found_4
    refine wf (nI_ge hi (by decide)) ⟨vp_in_nI hi (by decide), ?_⟩
    rw [hg.rd hi (by decide), nS, nS, nI_add]
    refine zc (fun q => ih _ ?_) (fun q => ih _ ?_)
    · rw [cnt, q]; rfl
    · rw [cnt, q]; rfl
theorem left_0 {x : Int32} {r : Nat} : x - nI r = 0 ↔ nI r = x := by
  rw [Int32.sub_eq_iff_eq_add, Int32.zero_add]
  exact eq_comm
theorem left_m1 (x : Int32) (r : Nat) : (x - nI r) + (-1 : Int32) = x - nI (r + 1) := by
  rw [← nS, show (-1 : Int32) = - nI 1 by decide +kernel, Int32.add_neg_eq_sub, Int32.sub_sub]
theorem m_foundAt (hg : az 256 g p) {x : Int32} (hp : post (fAt p x)) : wp_X11_foundAt post g x := by
  unfold wp_X11_foundAt
  have key : ∀ i, i ≤ 9 → ∀ r, so p x (9 - i) = (none, r) → ∃ n, wp_X11_foundAt_5 post g x n (x - nI r) (if i = 0 then (-1 : Int32) else nI (i - 1)) := by
    intro i
    induction i with
    | zero =>
      intro _ r hr
      refine ⟨1, ?_⟩
      unfold wp_X11_foundAt_5
      rw [if_pos rfl]
      refine wt (by decide +kernel) ?_
      unfold fAt at hp
      rw [show 9 - 0 = 9 from rfl] at hr
      rw [hr] at hp
      exact hp
    | succ i ih =>
      intro hi r hr
      rw [if_neg (Nat.succ_ne_zero i), show i + 1 - 1 = i by omega]
      have em1 : nI i + (-1 : Int32) = (if i = 0 then (-1 : Int32) else nI (i - 1)) := by
        cases i with
        | zero => decide +kernel
        | succ z => rw [if_neg (Nat.succ_ne_zero z)]; exact pk_m1 z
      have hj : 9 - (i + 1) = 8 - i := by omega
      have h8 : 8 - (8 - i) = i := by omega
      have rest : ∃ n, ∀ r', sc p i x r 256 = (none, r') → wp_X11_foundAt_5 post g x n (x - nI r') (if i = 0 then (-1 : Int32) else nI (i - 1)) := by
        cases e : sc p i x r 256 with
        | mk a r' =>
          cases a with
          | some s => exact ⟨0, fun r'' q => by cases q⟩
          | none =>
            have e9 : so p x (9 - i) = (none, r') := by
              rw [show 9 - i = (9 - (i + 1)) + 1 by omega, so, hr, hj, h8]
              exact e
            obtain ⟨n, hn⟩ := ih (by omega) r' e9
            exact ⟨n, fun r'' q => by cases q; exact hn⟩
      obtain ⟨n, hn⟩ := rest
      refine ⟨n + 1, ?_⟩
      unfold wp_X11_foundAt_5
      refine wf (nI_pos (by omega)) ?_
      refine loop_0 (fun n2 k v => wp_X11_foundAt_12 post g x (wp_X11_foundAt_5 post g x n) n2 v (nI i) (nI k)) (fun k v => ∃ r', v = x - nI r' ∧ sc p i x r k = (none, r')) 256 _ ⟨r, rfl, rfl⟩ ?_ ?_
      · rintro n2 v ⟨r', rfl, e⟩
        show wp_X11_foundAt_12 _ _ _ _ _ _ _ _
        unfold wp_X11_foundAt_12
        refine wt (nI_le (Nat.le_refl _) (by decide)) ?_
        rw [em1]
        exact hn r' e
      · rintro n2 k v hk ⟨r', rfl, e⟩ ih2
        show wp_X11_foundAt_12 _ _ _ _ _ _ _ _
        unfold wp_X11_foundAt_12
        refine wf (nI_ge hk (by decide)) ⟨vp_in_nI hk (by decide), ?_⟩
        rw [hg.rd hk (by decide), nS, left_m1]
        refine zc (fun q => ih2 _ ⟨r', rfl, ?_⟩) (fun q => ?_)
        · rw [sc, e, q]; rfl
        · refine m_ones (by omega) ?_
          have := pc_le k 8
          refine wc2 (nI_eq (by omega) (by omega)) (fun c => ?_) (fun c => ih2 _ ⟨r', rfl, ?_⟩)
          · refine wc2 left_0 (fun c2 => ?_) (fun c2 => ih2 _ ⟨r' + 1, rfl, ?_⟩)
            · have e3 : sc p (8 - (9 - (i + 1))) x r (k + 1) = (some k, r') := by
                rw [hj, h8, sc, e, q, c]; simp [c2]
              rw [← fAt_of (by omega) hr (by omega) e3]
              exact hp
            · rw [sc, e, q, c]; simp [c2]
          · rw [sc, e, q]; simp [c]
  have k9 := key 9 (Nat.le_refl _) 0 rfl
  rw [show x - nI 0 = x by rw [nI_0]; exact Int32.sub_zero x] at k9
  exact k9
end RFU
