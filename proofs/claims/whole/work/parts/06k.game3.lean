/-! the reference's ways and plays -/
theorem lg_neg (x y : Int64) : lg_cmp x y < 0 ↔ x < y := by
  unfold lg_cmp
  by_cases h : x > y
  · rw [if_pos h]
    constructor
    · intro e; exact absurd e (by decide +kernel)
    · intro e; rw [gt_iff_lt, Int64.lt_iff_toInt_lt] at h; rw [Int64.lt_iff_toInt_lt] at e; omega
  · rw [if_neg h]
    by_cases h2 : x = y
    · rw [if_pos h2]
      constructor
      · intro e; exact absurd e (by decide +kernel)
      · intro e; subst h2; rw [Int64.lt_iff_toInt_lt] at e; omega
    · rw [if_neg h2]
      constructor
      · intro _
        rw [gt_iff_lt, Int64.lt_iff_toInt_lt] at h
        rw [Int64.lt_iff_toInt_lt]
        have : x.toInt ≠ y.toInt := fun q => h2 (Int64.toInt_inj.mp q)
        omega
      · intro _; decide +kernel
def memW (dr : Nat → Nat) (g : Nat → Int64) : Prop := ∀ s c, s < 256 → c < 8 → g (8 * s + c) = -1 ∨ g (8 * s + c) = lN (gW dr s c)
theorem memW.up {dr : Nat → Nat} {g : Nat → Int64} (m : memW dr g) {s c : Nat} (hs : s < 256) (hc : c < 8) : memW dr (vp_updL g (8 * s + c) (lN (gW dr s c))) := fun t d ht hd' => by
  by_cases e : 8 * t + d = 8 * s + c
  · have e1 : t = s := by omega
    have e2 : d = c := by omega
    subst e1; subst e2
    exact Or.inr pk_uLs
  · rw [pk_uLn e]
    exact m t d ht hd'
theorem wsp_ge {T : Nat → Nat → Nat} {dr : Nat → Nat} {s d n : Nat} : ∀ m, n ≤ m → (∀ i, n ≤ i → i < m → (dif (dr d) s).testBit i = false) → wsp T dr s d m = wsp T dr s d n
  | 0, hm, _ => by rw [show n = 0 by omega]
  | m + 1, hm, hz => by
    by_cases e : n = m + 1
    · rw [e]
    · rw [wsp, hz m (by omega) (Nat.lt_succ_self _)]
      exact wsp_ge m (by omega) (fun i h1 h2 => hz i h1 (by omega))
theorem wbp_ge {T : Nat → Nat → Nat} {dr : Nat → Nat} {s c n : Nat} : ∀ m, n ≤ m → (∀ i, n ≤ i → i < m → (dr c).testBit i = false) → wbp T dr s c m = wbp T dr s c n
  | 0, hm, _ => by rw [show n = 0 by omega]
  | m + 1, hm, hz => by
    by_cases e : n = m + 1
    · rw [e]
    · rw [wbp, hz m (by omega) (Nat.lt_succ_self _)]
      exact wbp_ge m (by omega) (fun i h1 h2 => hz i h1 (by omega))
section GA4
variable {h : Nat → Nat} {gw gr : Nat → Int32}
def wkOK (h : Nat → Nat) (gw gr : Nat → Int32) (k : Nat) (W : (Int64 → (Nat → Int64) → Prop) → (Nat → Int32) → (Nat → Int32) → (Nat → Int64) → Int32 → Int32 → Prop) : Prop := ∀ (post : Int64 → (Nat → Int64) → Prop) (g : Nat → Int64) (s c : Nat), s < 256 → c < 8 → 8 - pc s 8 < k → memW (dfr h) g → (∀ g', memW (dfr h) g' → post (lN (gW (dfr h) s c)) g') → W post gw gr g (nI s) (nI c)
theorem m_waysAt (hw : ag 43 gw h) (H : hv h) (hgr : ag 8 gr (dfr h)) {k : Nat} {W : (Int64 → (Nat → Int64) → Prop) → (Nat → Int32) → (Nat → Int32) → (Nat → Int64) → Int32 → Int32 → Prop} (hW : wkOK h gw gr k W) : wkOK h gw gr (k + 1) (wp_X11_waysAt W) := by
  intro post g s c hs hc hk hm hp
  unfold wp_X11_waysAt
  have hpl : 8 * s + c < 2048 := by omega
  have hgP : gP = 1000000007 := rfl
  have hM := H.1
  have l0 : dfr h c < 256 := dfr_r8 h c hc
  have lW := gW_lt (dfr h) s c
  rw [place_r]
  refine ⟨vp_in_nI hpl (by decide), ?_⟩
  rw [nI_clamp (by omega)]
  have run : ∃ n31, wp_X11_waysAt_31 W post gw gr (nI s) (nI c) n31 (nI (8 * s + c)) (lN 1) (nI 0) g := by
    rw [gW_eq (dfr_r8 h) hs] at hp
    refine lo2 (fun n d v g => wp_X11_waysAt_31 W post gw gr (nI s) (nI c) n (nI (8 * s + c)) v (nI d) g) (fun d v g => memW (dfr h) g ∧ v = lN (wbp (gW (dfr h)) (dfr h) s c d)) (h 42) _ _ ⟨hm, rfl⟩ ?_ ?_
    · rintro n v g ⟨hm, rfl⟩
      show wp_X11_waysAt_31 _ _ _ _ _ _ _ _ _ _ _
      unfold wp_X11_waysAt_31
      refine ⟨vp_in_nI (by decide) (by decide), ?_⟩
      rw [hw.rd (by decide) (by decide)]
      refine wt (nI_le (Nat.le_refl _) (by omega)) ⟨vp_in_nI hpl (by decide), ?_⟩
      rw [nI_clamp (by omega)]
      have e1 : wbp (gW (dfr h)) (dfr h) s c (h 42) = wbp (gW (dfr h)) (dfr h) s c 8 := (wbp_ge 8 hM (fun i h1 _ => dfr_ge H h1)).symm
      have up := hm.up hs hc
      rw [gW_eq (dfr_r8 h) hs] at up
      rw [e1]
      exact hp _ up
    · rintro n d v g hd' ⟨hm, rfl⟩ ih
      show wp_X11_waysAt_31 _ _ _ _ _ _ _ _ _ _ _
      unfold wp_X11_waysAt_31
      refine ⟨vp_in_nI (by decide) (by decide), ?_⟩
      rw [hw.rd (by decide) (by decide)]
      refine wf (nI_ge hd' (by omega)) ⟨vp_in_nI hc (by decide), ?_⟩
      rw [hgr.rd hc (by decide), nS]
      refine m_has (by omega) (by omega) ?_
      refine zc (fun z => ih _ _ ⟨hm, ?_⟩) (fun z => ?_)
      · rw [wbp, z]; rfl
      · have ld : dfr h d < 256 := dfr_r8 h d (by omega)
        have ldd := dif_lt ld s
        refine lo2 (fun n2 q v g => wp_X11_waysAt_63 W post gw gr (nI s) (nI c) (wp_X11_waysAt_31 W post gw gr (nI s) (nI c) n) n2 (nI (8 * s + c)) (lN (wbp (gW (dfr h)) (dfr h) s c d)) (nI d) v (nI q) g) (fun q v g => memW (dfr h) g ∧ v = lN (wsp (gW (dfr h)) (dfr h) s d q)) (h 42) _ _ ⟨hm, rfl⟩ ?_ ?_
        · rintro n2 v g ⟨hm, rfl⟩
          show wp_X11_waysAt_63 _ _ _ _ _ _ _ _ _ _ _ _ _ _
          unfold wp_X11_waysAt_63
          refine ⟨vp_in_nI (by decide) (by decide), ?_⟩
          rw [hw.rd (by decide) (by decide)]
          refine wt (nI_le (Nat.le_refl _) (by omega)) ⟨p_ne0, p_ne0, ?_⟩
          intro y hy
          have e1 : wsp (gW (dfr h)) (dfr h) s d 8 = wsp (gW (dfr h)) (dfr h) s d (h 42) := wsp_ge 8 hM (fun i h1 _ => dif_fz ld (dfr_ge H h1))
          have h0 := wsp_le (dr := dfr h) (s := s) (d := d) (gW_lt (dfr h)) 8
          rw [← e1] at hy
          have h1 := wbp_lt (gW (dfr h)) (dfr h) s c d
          have h2 := Nat.mod_lt (wsp (gW (dfr h)) (dfr h) s d 8) (show 0 < gP by rw [hgP]; decide)
          have h3 : wbp (gW (dfr h)) (dfr h) s c d * (wsp (gW (dfr h)) (dfr h) s d 8 % gP) ≤ gP * gP := Nat.mul_le_mul (Nat.le_of_lt h1) (Nat.le_of_lt h2)
          have h4 : gP * gP < 2 ^ 63 := by rw [hgP]; decide
          have r1 := pk_lRem (a := wsp (gW (dfr h)) (dfr h) s d 8) (b := gP) (by omega) (by omega) (by omega)
          have r2 := pk_lRem (a := wbp (gW (dfr h)) (dfr h) s c d * (wsp (gW (dfr h)) (dfr h) s d 8 % gP)) (b := gP) (by omega) (by omega) (by omega)
          rw [p_lN, r1, lN_mul, r2] at hy
          rw [nS]
          refine ih _ _ ⟨hm, ?_⟩
          rw [hy, wbp, z]; rfl
        · rintro n2 q v g hq ⟨hm, rfl⟩ ih2
          show wp_X11_waysAt_63 _ _ _ _ _ _ _ _ _ _ _ _ _ _
          unfold wp_X11_waysAt_63
          refine ⟨vp_in_nI (by decide) (by decide), ?_⟩
          rw [hw.rd (by decide) (by decide)]
          refine wf (nI_ge hq (by omega)) ⟨vp_in_nI (by omega) (by decide), ?_⟩
          rw [hgr.rd (by omega) (by decide), nx_dif ld, nS, shl_1 (by omega), nx_or]
          refine m_has (by omega) (by omega) ?_
          refine zc (fun y => ih2 _ _ ⟨hm, ?_⟩) (fun y => ?_)
          · rw [wsp, y, lN_add]; rfl
          · have hnq : s.testBit q = false := by rw [dif_tb ld, Bool.and_eq_true] at y; simpa using y.2
            have lt := or_lt8 hs (pw_lt8 (show q < 8 by omega))
            refine hW _ g (s ||| 2 ^ q) q lt (by omega) (pc_sub (by omega) hnq hk) hm (fun g' hm' => ih2 _ _ ⟨hm', ?_⟩)
            rw [wsp, y, lN_add]; rfl
  rcases hm s c hs hc with e | e
  · rw [e]
    exact wt ((lg_neg _ _).mpr (by decide +kernel)) run
  · rw [e]
    refine wf (fun q => ?_) ⟨vp_in_nI hpl (by decide), hp g hm⟩
    have := (lg_neg _ _).mp q
    rw [pk_lLT (by omega) (by decide)] at this
    omega
theorem m_waysAt_r (hw : ag 43 gw h) (H : hv h) (hgr : ag 8 gr (dfr h)) : ∀ k, wkOK h gw gr k (wp_X11_waysAt_r k)
  | 0 => fun _ _ _ _ _ _ hk => absurd hk (Nat.not_lt_zero _)
  | k + 1 => m_waysAt hw H hgr (m_waysAt_r hw H hgr k)
theorem m_waysAt_t (hw : ag 43 gw h) (H : hv h) (hgr : ag 8 gr (dfr h)) : wkOK h gw gr 10 wp_X11_waysAt_t := m_waysAt_r hw H hgr 10
theorem m_plays (hw : ag 43 gw h) (H : hv h) {g1 g2 g3 g4 g5 : Nat → Int32} {g6 : Nat → Int64} {post : (Nat → Int32) → (Nat → Int32) → (Nat → Int32) → (Nat → Int32) → (Nat → Int32) → (Nat → Int64) → Prop} (hp : ∀ g1 g2 g3 g4 g5 g6, ag 8 g1 (hit h) → ag 8 g2 (lead h) → ag 8 g3 (dft h) → ag 8 g4 (dfr h) → memD (dfr h) g5 → memW (dfr h) g6 → post g1 g2 g3 g4 g5 g6) : wp_X11_plays post gw g1 g2 g3 g4 g5 g6 := by
  unfold wp_X11_plays
  refine m_reckons hw H (fun g1 g2 g3 g4 i1 i2 i3 i4 => ?_)
  refine lo2 (fun n i g5 g6 => wp_X11_plays_6 post gw n (nI i) g1 g2 g3 g4 g5 g6) (fun i g5 g6 => (∀ j, j < i → g5 j = -1) ∧ ∀ j, j < i → g6 j = -1) 2048 _ _ ⟨fun j hj => absurd hj (Nat.not_lt_zero j), fun j hj => absurd hj (Nat.not_lt_zero j)⟩ ?_ ?_
  · rintro n g5 g6 ⟨e1, e2⟩
    show wp_X11_plays_6 _ _ _ _ _ _ _ _ _ _
    unfold wp_X11_plays_6
    exact wt (nI_le (Nat.le_refl _) (by decide)) (hp _ _ _ _ _ _ i1 i2 i3 i4 (fun s c hs hc => Or.inl (e1 _ (by omega))) (fun s c hs hc => Or.inl (e2 _ (by omega))))
  · rintro n i g5 g6 hi ⟨e1, e2⟩ ih
    show wp_X11_plays_6 _ _ _ _ _ _ _ _ _ _
    unfold wp_X11_plays_6
    refine wf (nI_ge hi (by decide)) ⟨vp_in_nI hi (by decide), vp_in_nI hi (by decide), ?_⟩
    rw [nI_clamp (by omega), nS]
    refine ih _ _ ⟨fun j hj => ?_, fun j hj => ?_⟩
    · by_cases e : j = i
      · subst e; exact pk_us
      · rw [pk_un e]; exact e1 j (by omega)
    · by_cases e : j = i
      · subst e; exact pk_uLs
      · rw [pk_uLn e]; exact e2 j (by omega)
end GA4
