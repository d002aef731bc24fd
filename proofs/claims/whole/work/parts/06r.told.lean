/-! the reference's missing; labels as told; whatIs -/
theorem l_2 : (2 : Int64) = lN 2 := by decide +kernel
theorem l_20 : (20 : Int64) = lN 20 := by decide +kernel
section MMI
variable {h : Nat → Nat}
theorem m_missing {gw : Nat → Int32} (hw : ag 43 gw h) (H : hv h) {c t : Nat} (hc : c < h 42) (ht : t ≤ 20) (ht2 : 2 ≤ t) {w : Bool} {grf : Nat → Int32} {gh gl gd gr : Nat → Int32} {i1 i2 : Int32} {go : Nat → Int32} {i3 : Int32} {post : Int64 → (Nat → Int32) → (Nat → Int32) → (Nat → Int32) → (Nat → Int32) → (Nat → Int32) → (Nat → Int32) → Int32 → Int32 → (Nat → Int32) → Int32 → Prop} (hp : ∀ gw, ag 43 gw h → ∀ gh gl gd gr i1 i2 go i3, post (lN ((if w then t ^ pc (h 40) 5 else odS h c t 32) / Nat.gcd (odS h c t 32) (t ^ pc (h 40) 5))) gw grf gh gl gd gr i1 i2 go i3) : wp_X11_missing post gw grf gh gl gd gr i1 i2 go i3 (nI c) (nI t) (zI w) := by
  have l4 := H.heard
  have h8 := H.1
  have lB := p20_le (k := pc (h 40) 5) ht (pc_le _ _)
  have lA := odS_le (h := h) (c := c) ht 32
  have B0 : 0 < t ^ pc (h 40) 5 := Nat.pow_pos (by omega)
  unfold wp_X11_missing
  refine m_isClaimN hw H hc (wf2 n1_0 ?_)
  rw [l_2, l_20]
  refine m_inN (by decide) (by decide) (fun _ _ _ _ => ?_) (fun q => absurd ⟨t, ⟨ht2, ht⟩, rfl⟩ q)
  refine wf2 n1_0 (m_inZ (wf2 n1_0 ⟨vp_in_nI (by decide) (by decide), ?_⟩))
  rw [nI_clamp (by decide), hw 40 (by decide)]
  refine loop_0 (fun n i v => wp_X11_missing_95 post (nI c) (nI t) (zI w) n (nI (h 40)) (lN 0) v (nI i) gw grf gh gl gd gr i1 i2 go i3) (fun i v => v = lN (t ^ pc (h 40) i)) 5 _ rfl ?_ ?_
  · rintro n v rfl
    show wp_X11_missing_95 _ _ _ _ _ _ _ _ _ _ _ _ _ _ _ _ _ _ _
    unfold wp_X11_missing_95
    refine wt (nI_le (Nat.le_refl _) (by decide)) ?_
    refine lo10 (fun n g v gw gh gl gd gr i1 i2 go i3 => wp_X11_missing_131 post (nI c) (nI t) (zI w) n (nI (h 40)) v (lN (t ^ pc (h 40) 5)) (nI g) gw grf gh gl gd gr i1 i2 go i3) (fun g v gw gh gl gd gr i1 i2 go i3 => agx gw h ∧ v = lN (odS h c t g)) 32 _ _ _ _ _ _ _ _ _ _ ⟨fun j hj _ => hw j hj, rfl⟩ ?_ ?_
    · rintro n v gw gh gl gd gr i1 i2 go i3 ⟨ax, rfl⟩
      show wp_X11_missing_131 _ _ _ _ _ _ _ _ _ _ _ _ _ _ _ _ _ _ _
      unfold wp_X11_missing_131
      refine wt (nI_le (Nat.le_refl _) (by decide)) ⟨vp_in_nI (by decide) (by decide), ?_⟩
      rw [nI_clamp (by decide)]
      refine m_part (by omega) (by omega) B0 ?_
      exact hp _ ax.end _ _ _ _ _ _ _ _
    · rintro n g v gw gh gl gd gr i1 i2 go i3 hg ⟨ax, rfl⟩ ih
      show wp_X11_missing_131 _ _ _ _ _ _ _ _ _ _ _ _ _ _ _ _ _ _ _
      unfold wp_X11_missing_131
      refine wf (nI_ge hg (by decide)) ?_
      rw [nS g, nx_dif (show g < 256 by omega)]
      refine wc2 (nI_eq0 (by have := dif_lt (show g < 256 by omega) (h 40); omega)) (fun q => ?_) (fun q => ih _ _ _ _ _ _ _ _ _ _ ⟨ax, by rw [odS, od1, if_neg q]; rfl⟩)
      refine loop_0 (fun m i v => wp_X11_missing_154 post (nI c) (nI t) (zI w) (wp_X11_missing_131 post (nI c) (nI t) (zI w) n) m (nI (h 40)) (lN (odS h c t g)) (lN (t ^ pc (h 40) 5)) (nI g) v (nI i) gw grf gh gl gd gr i1 i2 go i3) (fun i v => v = lN ((t - 1) ^ pc (dif (h 40) g) i)) 5 _ rfl ?_ ?_
      · rintro m v rfl
        show wp_X11_missing_154 _ _ _ _ _ _ _ _ _ _ _ _ _ _ _ _ _ _ _ _ _ _
        unfold wp_X11_missing_154
        refine wt (nI_le (Nat.le_refl _) (by decide)) ⟨vp_in_nI (by decide) (by decide), ?_⟩
        rw [nI_clamp (by decide), nx_dif l4, nS g]
        refine m_isIn (h := wo h g) (ax.set _) (wo_ok H g) (by omega) (fun gh gl gd gr i1 i2 go i3 => ?_)
        refine zc (fun z => ih _ _ _ _ _ _ _ _ _ _ ⟨ax.put _, ?_⟩) (fun z => ih _ _ _ _ _ _ _ _ _ _ ⟨ax.put _, ?_⟩)
        · rw [lN_add, odS, od1, if_pos q, z]; rfl
        · rw [lN_add, odS, od1, if_pos q, z]; rfl
      · rintro m i v hi rfl ih2
        show wp_X11_missing_154 _ _ _ _ _ _ _ _ _ _ _ _ _ _ _ _ _ _ _ _ _ _
        unfold wp_X11_missing_154
        refine wf (nI_ge hi (by decide)) ?_
        have ld := dif_lt l4 g
        rw [nS i, nx_dif l4, pk_sub (by omega), nI_l (by omega)]
        refine m_has (by omega) (by omega) ?_
        refine zc (fun z => ih2 _ ?_) (fun z => ih2 _ ?_)
        · rw [lN_mul, pc, z, Nat.mul_one]; rfl
        · rw [lN_mul, pc, z]; rfl
  · rintro n i v hi rfl ih
    show wp_X11_missing_95 _ _ _ _ _ _ _ _ _ _ _ _ _ _ _ _ _ _ _
    unfold wp_X11_missing_95
    refine wf (nI_ge hi (by decide)) ?_
    rw [nS i, nI_l (by omega)]
    refine m_has (by omega) (by omega) ?_
    refine zc (fun z => ih _ ?_) (fun z => ih _ ?_)
    · rw [lN_mul, pc, z, Nat.mul_one]; rfl
    · rw [lN_mul, pc, z]; rfl
def told (h : Nat → Nat) (rn : Nat) (rf : Nat → Nat) : Bool := decide (rn ≤ h 42) && !anB (fun k => !decide (lab h k = rf k)) rn
theorem told_f {rn : Nat} {rf : Nat → Nat} {k : Nat} (hk : k < rn) (e : ¬ lab h k = rf k) : told h rn rf = false := by
  unfold told
  rw [anB_iff.mpr ⟨k, hk, by rw [decide_eq_false e]; rfl⟩]
  simp
theorem told_t {rn : Nat} {rf : Nat → Nat} (hr : rn ≤ h 42) (e : ∀ k, k < rn → lab h k = rf k) : told h rn rf = true := by
  unfold told
  rw [anB_f.mpr (fun k hk => by rw [decide_eq_true (e k hk)]; rfl), decide_eq_true hr]
  rfl
theorem told_m {rn : Nat} {rf : Nat → Nat} (hr : ¬ rn ≤ h 42) : told h rn rf = false := by
  unfold told
  rw [decide_eq_false hr]
  rfl
theorem lab_le (k : Nat) : lab h k ≤ 3 := by
  unfold lab
  split
  · split
    · omega
    · split <;> omega
  · omega
theorem s_rowAt {rn k : Nat} {rf : Nat → Nat} {g : Nat → Int32} (hr : rn ≤ 12) (hg : ag rn g rf) (hk : k < 2 ^ 31) {x : Int32} {post : Int32 → Prop} (hp : post (if k < rn then nI (rf k) else x)) : wp_X6_at post 12 g (nI rn) (nI k) x := by
  unfold wp_X6_at
  refine wf (nI_pos hk) ?_
  refine wc (nI_leI (by omega) hk) (fun q => ?_) (fun q => ?_)
  · rw [if_neg (by omega)] at hp; exact hp
  · refine wf (nI_ge (by omega) (by decide)) ⟨vp_in_nI (by omega) (by decide), ?_⟩
    rw [if_pos (by omega)] at hp
    rw [nI_clamp hk, hg k (by omega)]
    exact hp
theorem s_beginSo (H : hv h) {rn : Nat} {rf : Nat → Nat} {g : Nat → Int32} (hr : rn ≤ 12) (hg : ag rn g rf) (hrf : ∀ k, k < rn → rf k < 2 ^ 31) {post : Int32 → Prop} (hp : post (zI (told h rn rf))) : wp_X4_beginSo post 12 g (nI rn) (nI (h 42)) (nI (h 40)) (nI (tI h)) (nI (tO h)) := by
  have h8 := H.1
  unfold wp_X4_beginSo
  refine wc (nI_leI (by omega) (by omega)) (fun q => ?_) (fun q => by rw [told_m q] at hp; exact hp)
  refine loop_0 (fun n i (_ : Unit) => wp_X4_beginSo_15 post 12 g (nI rn) (nI (h 42)) (nI (h 40)) (nI (tI h)) (nI (tO h)) n (nI i)) (fun i _ => ∀ k, k < i → lab h k = rf k) rn () (fun k hk => absurd hk (Nat.not_lt_zero k)) ?_ ?_
  · rintro n _ i1
    show wp_X4_beginSo_15 _ _ _ _ _ _ _ _ _ _
    unfold wp_X4_beginSo_15
    refine wt (nI_le (Nat.le_refl _) (by omega)) ?_
    rw [told_t q i1] at hp
    exact hp
  · rintro n i _ hi i1 ih
    show wp_X4_beginSo_15 _ _ _ _ _ _ _ _ _ _
    unfold wp_X4_beginSo_15
    refine wf (nI_ge hi (by omega)) ?_
    rw [nS i]
    refine s_rowAt hr hg (by omega) ?_
    rw [if_pos hi]
    refine s_labelOf H (by omega) ?_
    have := lab_le (h := h) i
    refine wc (nI_eq (hrf i hi) (by omega)) (fun e => ih () (fun k hk => ?_)) (fun e => ?_)
    · by_cases y : k = i
      · subst y; exact e.symm
      · exact i1 k (by omega)
    · rw [told_f hi (fun y => e y.symm)] at hp
      exact hp
theorem m_isAsTold {gw : Nat → Int32} (hw : ag 43 gw h) (H : hv h) {rn : Nat} {rf : Nat → Nat} {g : Nat → Int32} (hr : rn ≤ 12) (hg : ag rn g rf) (hrf : ∀ k, k < rn → rf k < 2 ^ 31) {gh gl gd gr : Nat → Int32} {i1 i2 : Int32} {go : Nat → Int32} {i3 : Int32} {post : Int32 → (Nat → Int32) → (Nat → Int32) → (Nat → Int32) → (Nat → Int32) → Int32 → Int32 → (Nat → Int32) → Int32 → Prop} (hp : ∀ gh gl gd gr i1 i2 go i3, post (zI (told h rn rf)) gh gl gd gr i1 i2 go i3) : wp_X11_isAsTold post gw g (nI rn) gh gl gd gr i1 i2 go i3 := by
  have h8 := H.1
  unfold wp_X11_isAsTold
  refine m_turnsAll hw H (fun gh gl gd gr go _ _ _ _ _ => ?_)
  refine loop_0 (fun n i (_ : Unit) => wp_X11_isAsTold_6 post gw g (nI rn) n (nI i) gh gl gd gr (nI (tI h)) (nI (tO h)) go (nI (tN h))) (fun i _ => ∀ k, k < i → k < h 42 ∧ lab h k = rf k) rn () (fun k hk => absurd hk (Nat.not_lt_zero k)) ?_ ?_
  · rintro n _ i1
    show wp_X11_isAsTold_6 _ _ _ _ _ _ _ _ _ _ _ _ _ _
    unfold wp_X11_isAsTold_6
    refine wt (nI_le (Nat.le_refl _) (by omega)) ?_
    have := hp gh gl gd gr (nI (tI h)) (nI (tO h)) go (nI (tN h))
    rw [told_t (by
      cases rn with
      | zero => exact Nat.zero_le _
      | succ r => exact (i1 r (Nat.lt_succ_self r)).1) (fun k hk => (i1 k hk).2)] at this
    exact this
  · rintro n i _ hi i1 ih
    show wp_X11_isAsTold_6 _ _ _ _ _ _ _ _ _ _ _ _ _ _
    unfold wp_X11_isAsTold_6
    refine wf (nI_ge hi (by omega)) ⟨vp_in_nI (by decide) (by decide), ?_⟩
    rw [hw.rd (by decide) (by decide), nS i]
    have r := hp gh gl gd gr (nI (tI h)) (nI (tO h)) go (nI (tN h))
    refine wc (nI_leI (by omega) (by omega)) (fun q => ?_) (fun q => ?_)
    · rw [told_m (by omega)] at r; exact r
    · refine m_labelOf hw H (by omega) ⟨vp_in_nI (by omega) (by decide), ?_⟩
      rw [nI_clamp (by omega), hg i hi]
      have := lab_le (h := h) i
      refine wc (nI_eq (by omega) (hrf i hi)) (fun e => ih () (fun k hk => ?_)) (fun e => ?_)
      · by_cases y : k = i
        · subst y; exact ⟨by omega, e⟩
        · exact i1 k (by omega)
      · rw [told_f hi e] at r
        exact r
def whS (h : Nat → Nat) (rn : Nat) (rf : Nat → Nat) (p : Nat) : Nat → Nat := bs (fun v => told (upN h p v) rn rf)
theorem whS_s (rn : Nat) (rf : Nat → Nat) (p i : Nat) : whS h rn rf p (i + 1) = whS h rn rf p i ||| (if told (upN h p i) rn rf then 2 ^ i else 0) := rfl
theorem upN_id (p : Nat) : upN h p (h p) = h := by
  funext j
  by_cases e : j = p
  · subst e; exact upN_s _ _ _
  · exact upN_n _ e
theorem up_kd {c : Nat} (hc : c < 8) (v0 v : Nat) : upN (upN (upN h c v0) c v) (8 + c) (h (8 + c)) = upN h c v := by
  funext j
  by_cases e : j = 8 + c
  · subst e; rw [upN_s, upN_n _ (by omega)]
  · rw [upN_n _ e]
    by_cases e2 : j = c
    · subst e2; rw [upN_s, upN_s]
    · rw [upN_n _ e2, upN_n _ e2, upN_n _ e2]
theorem up_fg {c : Nat} (hc : c < 8) (v0 v : Nat) : upN (upN (upN h (8 + c) v0) c (h c)) (8 + c) v = upN h (8 + c) v := by
  funext j
  by_cases e : j = 8 + c
  · subst e; rw [upN_s, upN_s]
  · rw [upN_n _ e, upN_n (j := j) (k := 8 + c) _ e]
    by_cases e2 : j = c
    · subst e2; rw [upN_s]
    · rw [upN_n _ e2, upN_n _ e]
theorem s_recast {k : Nat → Nat} {sz hr md : Int32} {ca fi vo at_ su : Int64} (e : HC k sz hr md ca fi vo at_ su) {c v f : Nat} (hc : c < 8) (hv' : v < 256) (hf : f < 256) {post : Int64 → Int64 → Prop} (hp : ∀ ca fi, HC (upN (upN k c v) (8 + c) f) sz hr md ca fi vo at_ su → post ca fi) : wp_X3_recast post ca fi (nI c) (nI v) (nI f) := by
  unfold wp_X3_recast
  have u := (e.kd_up hc v).fg_up hc f
  obtain ⟨rfl, rfl, rfl, rfl, rfl, rfl, rfl, rfl⟩ := e
  refine s_with hc hv' (s_with hc hf ?_)
  refine hp _ _ ?_
  have e2 : pL (upN (fun c' => upN k c v (8 + c')) c f) = pL (upN (fun c' => k (8 + c')) c f) := pL_congr (fun i hi => by
    by_cases q : i = c
    · subst q; rw [upN_s, upN_s]
    · rw [upN_n _ q, upN_n _ q, upN_n _ (by omega)])
  rw [e2] at u
  exact u
theorem s_kindsBy (H : hv h) {sz hr md : Int32} {ca fi vo at_ su : Int64} (e : HC h sz hr md ca fi vo at_ su) {rn : Nat} {rf : Nat → Nat} {g : Nat → Int32} (hrn : rn ≤ 12) (hg : ag rn g rf) (hrf : ∀ k, k < rn → rf k < 2 ^ 31) {c : Nat} (hc : c < h 42) {d1 d2 d3 : Int32} {d4 d5 d6 d7 d8 : Int64} {s1 s2 s3 s4 : Int64} {t1 t2 t3 : Int32} {t4 : Int64} {post : Int32 → Int32 → Int32 → Int32 → Int64 → Int64 → Int64 → Int64 → Int64 → Int64 → Int64 → Int64 → Int64 → Int32 → Int32 → Int32 → Int64 → Prop} (hp : ∀ d1 d2 d3 d4 d5 d6 d7 d8 s1 s2 s3 s4 t1 t2 t3 t4, post (nI (whS h rn rf c 6)) d1 d2 d3 d4 d5 d6 d7 d8 s1 s2 s3 s4 t1 t2 t3 t4) : wp_X8_kindsBy post 12 d1 d2 d3 d4 d5 d6 d7 d8 s1 s2 s3 s4 t1 t2 t3 t4 g (nI rn) sz hr md ca fi vo at_ su (nI c) := by
  have h8 := H.1
  have he := e
  obtain ⟨rfl, rfl, rfl, rfl, rfl, rfl, rfl, rfl⟩ := e
  unfold wp_X8_kindsBy wp_X3_take
  refine lo17 (fun n i v d1 d2 d3 d4 d5 d6 d7 d8 s1 s2 s3 s4 t1 t2 t3 t4 => wp_X8_kindsBy_14 post 12 g (nI rn) (nI (h 42)) (nI (h 40)) (nI (h 41)) (pL (fun c => h c)) (pL (fun c => h (8 + c))) (pL (fun c => h (16 + c))) (pL (fun c => h (24 + c))) (pL (fun c => h (32 + c))) (nI c) n v (nI i) d1 d2 d3 d4 d5 d6 d7 d8 s1 s2 s3 s4 t1 t2 t3 t4) (fun i v d1 d2 d3 d4 d5 d6 d7 d8 s1 s2 s3 s4 t1 t2 t3 t4 => v = nI (whS h rn rf c i) ∧ ∃ v0, HC (upN h c v0) d1 d2 d3 d4 d5 d6 d7 d8) 6 _ _ _ _ _ _ _ _ _ _ _ _ _ _ _ _ _ ⟨rfl, h c, by rw [upN_id]; exact he⟩ ?_ ?_
  · rintro n v d1 d2 d3 d4 d5 d6 d7 d8 s1 s2 s3 s4 t1 t2 t3 t4 ⟨rfl, _⟩
    show wp_X8_kindsBy_14 _ _ _ _ _ _ _ _ _ _ _ _ _ _ _ _ _ _ _ _ _ _ _ _ _ _ _ _ _ _ _ _
    unfold wp_X8_kindsBy_14
    exact wt (nI_le (Nat.le_refl _) (by decide)) (hp _ _ _ _ _ _ _ _ _ _ _ _ _ _ _ _)
  · rintro n i v d1 d2 d3 d4 d5 d6 d7 d8 s1 s2 s3 s4 t1 t2 t3 t4 hi ⟨rfl, v0, q2⟩ ih
    show wp_X8_kindsBy_14 _ _ _ _ _ _ _ _ _ _ _ _ _ _ _ _ _ _ _ _ _ _ _ _ _ _ _ _ _ _ _ _
    unfold wp_X8_kindsBy_14
    refine wf (nI_ge hi (by decide)) ?_
    rw [nS i, shl_1 (by omega), nx_or]
    refine s_figureOf H.r_fg (by omega) ?_
    refine s_recast q2 (by omega) (by omega) (by have := H.fg (show c < 8 by omega); show h (8 + c) < 256; omega) (fun ca fi e2 => ?_)
    rw [up_kd (by omega)] at e2
    have H2 : hv (upN h c i) := H.set_kd hc (by omega)
    refine s_draftIn H2 e2 ?_
    intro _ _ _ _ _
    have e3 := e2
    obtain ⟨rfl, rfl, -⟩ := e3
    refine s_beginSo H2 hrn hg hrf ?_
    refine zc (fun z => ih _ _ _ _ _ _ _ _ _ _ _ _ _ _ _ _ _ ⟨?_, i, e2⟩) (fun z => ih _ _ _ _ _ _ _ _ _ _ _ _ _ _ _ _ _ ⟨?_, i, e2⟩)
    · rw [whS_s, z]; exact congrArg nI (Nat.or_zero _).symm
    · rw [whS_s, z]; rfl
theorem s_figuresBy (H : hv h) {sz hr md : Int32} {ca fi vo at_ su : Int64} (e : HC h sz hr md ca fi vo at_ su) {rn : Nat} {rf : Nat → Nat} {g : Nat → Int32} (hrn : rn ≤ 12) (hg : ag rn g rf) (hrf : ∀ k, k < rn → rf k < 2 ^ 31) {c : Nat} (hc : c < h 42) {d1 d2 d3 : Int32} {d4 d5 d6 d7 d8 : Int64} {s1 s2 s3 s4 : Int64} {t1 t2 t3 : Int32} {t4 : Int64} {post : Int32 → Int32 → Int32 → Int32 → Int64 → Int64 → Int64 → Int64 → Int64 → Int64 → Int64 → Int64 → Int64 → Int32 → Int32 → Int32 → Int64 → Prop} (hp : ∀ d1 d2 d3 d4 d5 d6 d7 d8 s1 s2 s3 s4 t1 t2 t3 t4, post (nI (whS h rn rf (8 + c) 10)) d1 d2 d3 d4 d5 d6 d7 d8 s1 s2 s3 s4 t1 t2 t3 t4) : wp_X8_figuresBy post 12 d1 d2 d3 d4 d5 d6 d7 d8 s1 s2 s3 s4 t1 t2 t3 t4 g (nI rn) sz hr md ca fi vo at_ su (nI c) := by
  have h8 := H.1
  have he := e
  obtain ⟨rfl, rfl, rfl, rfl, rfl, rfl, rfl, rfl⟩ := e
  unfold wp_X8_figuresBy wp_X3_take
  refine lo17 (fun n i v d1 d2 d3 d4 d5 d6 d7 d8 s1 s2 s3 s4 t1 t2 t3 t4 => wp_X8_figuresBy_14 post 12 g (nI rn) (nI (h 42)) (nI (h 40)) (nI (h 41)) (pL (fun c => h c)) (pL (fun c => h (8 + c))) (pL (fun c => h (16 + c))) (pL (fun c => h (24 + c))) (pL (fun c => h (32 + c))) (nI c) n v (nI i) d1 d2 d3 d4 d5 d6 d7 d8 s1 s2 s3 s4 t1 t2 t3 t4) (fun i v d1 d2 d3 d4 d5 d6 d7 d8 s1 s2 s3 s4 t1 t2 t3 t4 => v = nI (whS h rn rf (8 + c) i) ∧ ∃ v0, HC (upN h (8 + c) v0) d1 d2 d3 d4 d5 d6 d7 d8) 10 _ _ _ _ _ _ _ _ _ _ _ _ _ _ _ _ _ ⟨rfl, h (8 + c), by rw [upN_id]; exact he⟩ ?_ ?_
  · rintro n v d1 d2 d3 d4 d5 d6 d7 d8 s1 s2 s3 s4 t1 t2 t3 t4 ⟨rfl, _⟩
    show wp_X8_figuresBy_14 _ _ _ _ _ _ _ _ _ _ _ _ _ _ _ _ _ _ _ _ _ _ _ _ _ _ _ _ _ _ _ _
    unfold wp_X8_figuresBy_14
    exact wt (nI_le (Nat.le_refl _) (by decide)) (hp _ _ _ _ _ _ _ _ _ _ _ _ _ _ _ _)
  · rintro n i v d1 d2 d3 d4 d5 d6 d7 d8 s1 s2 s3 s4 t1 t2 t3 t4 hi ⟨rfl, v0, q2⟩ ih
    show wp_X8_figuresBy_14 _ _ _ _ _ _ _ _ _ _ _ _ _ _ _ _ _ _ _ _ _ _ _ _ _ _ _ _ _ _ _ _
    unfold wp_X8_figuresBy_14
    refine wf (nI_ge hi (by decide)) ?_
    rw [nS i, shl_1 (by omega), nx_or]
    refine s_kindOf H.r_kd (by omega) ?_
    refine s_recast q2 (by omega) (by have := H.kd (show c < 8 by omega); show h c < 256; omega) (by omega) (fun ca fi e2 => ?_)
    rw [up_fg (by omega)] at e2
    have H2 : hv (upN h (8 + c) i) := H.set_fg hc (by omega)
    refine s_draftIn H2 e2 ?_
    intro _ _ _ _ _
    have e3 := e2
    obtain ⟨rfl, rfl, -⟩ := e3
    refine s_beginSo H2 hrn hg hrf ?_
    refine zc (fun z => ih _ _ _ _ _ _ _ _ _ _ _ _ _ _ _ _ _ ⟨?_, i, e2⟩) (fun z => ih _ _ _ _ _ _ _ _ _ _ _ _ _ _ _ _ _ ⟨?_, i, e2⟩)
    · rw [whS_s, z]; exact congrArg nI (Nat.or_zero _).symm
    · rw [whS_s, z]; rfl
def agk (p : Nat) (gw : Nat → Int32) (h : Nat → Nat) : Prop := ∀ j, j < 43 → j ≠ p → gw j = nI (h j)
theorem agk.set {p : Nat} {gw : Nat → Int32} (a : agk p gw h) (v : Nat) : ag 43 (upd gw p (nI v)) (upN h p v) := fun j hj => by
  by_cases e : j = p
  · subst e; rw [pk_us, upN_s]
  · rw [pk_un e, upN_n _ e]; exact a j hj e
theorem agk.put {p : Nat} {gw : Nat → Int32} (a : agk p gw h) (x : Int32) : agk p (upd gw p x) h := fun j hj e => by rw [pk_un e]; exact a j hj e
theorem agk.end {p : Nat} {gw : Nat → Int32} (a : agk p gw h) : ag 43 (upd gw p (nI (h p))) h := fun j hj => by
  by_cases e : j = p
  · subst e; rw [pk_us]
  · rw [pk_un e]; exact a j hj e
theorem m_wh {gw : Nat → Int32} (hw : ag 43 gw h) {rn : Nat} {rf : Nat → Nat} {g : Nat → Int32} (hr : rn ≤ 12) (hg : ag rn g rf) (hrf : ∀ k, k < rn → rf k < 2 ^ 31) {p q N : Nat} {c : Nat} (hpq : p = q + c) (hp43 : p < 43) {w : Bool} (hN : (w = false ∧ N = 6) ∨ (w = true ∧ N = 10)) (hk : ∀ v, v < N → hv (upN h p v)) {grf : Nat → Int32} {gh gl gd gr : Nat → Int32} {i1 i2 : Int32} {go : Nat → Int32} {i3 : Int32} {post : Int32 → (Nat → Int32) → (Nat → Int32) → (Nat → Int32) → (Nat → Int32) → (Nat → Int32) → (Nat → Int32) → Int32 → Int32 → (Nat → Int32) → Int32 → Prop} (hp : ∀ gw, ag 43 gw h → ∀ gh gl gd gr i1 i2 go i3, post (nI (whS h rn rf p N)) gw grf gh gl gd gr i1 i2 go i3) : wp_X11_whatIs_41 post g (nI rn) (nI c) (zI w) gw grf gh gl gd gr i1 i2 go i3 (nI q) := by
  have hN2 : N ≤ 10 := by omega
  unfold wp_X11_whatIs_41
  rw [nI_add, ← hpq, nI_clamp (by omega), hw p hp43]
  refine ⟨vp_in_nI hp43 (by decide), ?_⟩
  refine lo10 (fun n i v gw gh gl gd gr i1 i2 go i3 => wp_X11_whatIs_58 post g (nI rn) (nI c) (zI w) n (nI p) (nI (h p)) v (nI i) gw grf gh gl gd gr i1 i2 go i3) (fun i v gw gh gl gd gr i1 i2 go i3 => v = nI (whS h rn rf p i) ∧ agk p gw h) N _ _ _ _ _ _ _ _ _ _ ⟨rfl, fun j hj _ => hw j hj⟩ ?_ ?_
  · rintro n v gw gh gl gd gr i1 i2 go i3 ⟨rfl, ax⟩
    show wp_X11_whatIs_58 _ _ _ _ _ _ _ _ _ _ _ _ _ _ _ _ _ _ _ _
    unfold wp_X11_whatIs_58
    have T : wp_X11_whatIs_71 post g (nI rn) (nI c) (zI w) (wp_X11_whatIs_58 post g (nI rn) (nI c) (zI w) n) (nI p) (nI (h p)) (nI (whS h rn rf p N)) (nI N) gw grf gh gl gd gr i1 i2 go i3 (nI N) (nI N) := by
      unfold wp_X11_whatIs_71
      refine wt (nI_le (Nat.le_refl _) (by omega)) ⟨vp_in_nI hp43 (by decide), ?_⟩
      rw [nI_clamp (by omega)]
      exact hp _ ax.end _ _ _ _ _ _ _ _
    rcases hN with ⟨rfl, rfl⟩ | ⟨rfl, rfl⟩
    · exact zc2 (fun _ => T) (fun z => by cases z)
    · exact zc2 (fun z => by cases z) (fun _ => T)
  · rintro n i v gw gh gl gd gr i1 i2 go i3 hi ⟨rfl, ax⟩ ih
    show wp_X11_whatIs_58 _ _ _ _ _ _ _ _ _ _ _ _ _ _ _ _ _ _ _ _
    unfold wp_X11_whatIs_58
    have T : wp_X11_whatIs_71 post g (nI rn) (nI c) (zI w) (wp_X11_whatIs_58 post g (nI rn) (nI c) (zI w) n) (nI p) (nI (h p)) (nI (whS h rn rf p i)) (nI i) gw grf gh gl gd gr i1 i2 go i3 (nI N) (nI i) := by
      unfold wp_X11_whatIs_71
      refine wf (nI_ge hi (by omega)) ⟨vp_in_nI hp43 (by decide), ?_⟩
      rw [nI_clamp (by omega), nS i, shl_1 (by omega), nx_or, nx_or]
      refine m_isAsTold (ax.set i) (hk i hi) hr hg hrf (fun gh gl gd gr i1 i2 go i3 => ?_)
      refine zc (fun z => ih _ _ _ _ _ _ _ _ _ _ ⟨?_, ax.put _⟩) (fun z => ih _ _ _ _ _ _ _ _ _ _ ⟨?_, ax.put _⟩)
      · rw [whS_s, z]; rfl
      · rw [whS_s, z]; rfl
    rcases hN with ⟨rfl, rfl⟩ | ⟨rfl, rfl⟩
    · exact zc2 (fun _ => T) (fun z => by cases z)
    · exact zc2 (fun z => by cases z) (fun _ => T)
theorem m_whatIs {gw : Nat → Int32} (hw : ag 43 gw h) (H : hv h) {rn : Nat} {rf : Nat → Nat} {g : Nat → Int32} (hr : rn ≤ 12) (hg : ag rn g rf) (hrf : ∀ k, k < rn → rf k < 2 ^ 31) {c : Nat} (hc : c < h 42) {w : Bool} {grf : Nat → Int32} {gh gl gd gr : Nat → Int32} {i1 i2 : Int32} {go : Nat → Int32} {i3 : Int32} {post : Int32 → (Nat → Int32) → (Nat → Int32) → (Nat → Int32) → (Nat → Int32) → (Nat → Int32) → (Nat → Int32) → Int32 → Int32 → (Nat → Int32) → Int32 → Prop} (hp : ∀ gw, ag 43 gw h → ∀ gh gl gd gr i1 i2 go i3, post (nI (if w then whS h rn rf (8 + c) 10 else whS h rn rf c 6)) gw grf gh gl gd gr i1 i2 go i3) : wp_X11_whatIs post gw grf g (nI rn) gh gl gd gr i1 i2 go i3 (nI c) (zI w) := by
  have h8 := H.1
  unfold wp_X11_whatIs
  refine m_isClaimN hw H hc (wf2 n1_0 ?_)
  refine m_inZ (wf2 n1_0 ?_)
  refine zc2 (fun z => ?_) (fun z => ?_)
  · rw [z] at hp
    exact m_wh hw hr hg hrf (p := c) (q := 0) (N := 6) (Nat.zero_add c).symm (by omega) (Or.inl ⟨z, rfl⟩) (fun v hv' => H.set_kd hc (by omega)) hp
  · rw [z] at hp
    exact m_wh hw hr hg hrf (p := 8 + c) (q := 8) (N := 10) rfl (by omega) (Or.inr ⟨z, rfl⟩) (fun v hv' => H.set_fg hc (by omega)) hp
end MMI
