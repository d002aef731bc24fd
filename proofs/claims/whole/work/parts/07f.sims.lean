/-! the simulations, second part -/
theorem rdH_ok {L : Nat → Nat} {n : Nat} {h : Nat → Nat} (H : hv h) : hv (rdH L n h) := by
  unfold rdH
  cases b : bdp L n with
  | some _ => exact H
  | none =>
    show hv (if (fs L h n).2.2 then (fs L h n).1 else h)
    cases z : (fs L h n).2.2
    · exact H
    · exact (fs_inv (bdp_wf b) H n (Nat.le_refl _) z).2
theorem sim_clear {cg_numbers_numbers : Nat → Int32} {cs_numbers_length : Int32} {mg_row : Nat → Int32} {ms_rows : Int32} (hW : LTR 12 10 cg_numbers_numbers cs_numbers_length mg_row ms_rows) {Q : Int32 → Int32 → Int32 → Int32 → Prop} (hq : ∀ r cs_numbers_length' ms_rows', LTR 12 10 cg_numbers_numbers cs_numbers_length' mg_row ms_rows' → Q r r cs_numbers_length' ms_rows') : wp_X10_clear (fun r cs_numbers_length' => wp_X11_clear (fun r2 ms_rows' => Q r r2 cs_numbers_length' ms_rows') ms_rows) cs_numbers_length := by
  generalize hP : (fun r cs_numbers_length' => wp_X11_clear (fun r2 ms_rows' => Q r r2 cs_numbers_length' ms_rows') ms_rows) = P
  obtain ⟨n, f, ⟨hn, rfl, rfl⟩, ⟨a1, a2⟩, hb⟩ := hW
  unfold wp_X10_clear
  rw [← hP]
  unfold wp_X11_clear
  exact hq _ _ _ ⟨0, f, ⟨Nat.zero_le _, rfl, rfl⟩, ⟨a1.le (Nat.zero_le _), a2.le (Nat.zero_le _)⟩, fun k hk => absurd hk (Nat.not_lt_zero k)⟩
theorem sim_hall {sz : Int32} {hr : Int32} {md : Int32} {ca : Int64} {fi : Int64} {vo : Int64} {at_ : Int64} {su : Int64} {gw : Nat → Int32} {cg_reader_letters_numbers : Nat → Int32} {cs_reader_letters_length : Int32} {mg_letters : Nat → Int32} {ms_lettered : Int32} {cs_reader_draft_size : Int32} {cs_reader_draft_heard : Int32} {cs_reader_draft_mode : Int32} {cs_reader_draft_cast : Int64} {cs_reader_draft_figures : Int64} {cs_reader_draft_voices : Int64} {cs_reader_draft_attacks : Int64} {cs_reader_draft_supports : Int64} {mg_laid : Nat → Int32} {ms_reading : Int32} {ms_isWell : Int32} (hH : HR sz hr md ca fi vo at_ su gw) (hL : LTR 96 256 cg_reader_letters_numbers cs_reader_letters_length mg_letters ms_lettered) {Q : Int32 → Int32 → Int32 → Int32 → Int32 → Int64 → Int64 → Int64 → Int64 → Int64 → Int32 → Int32 → Int32 → Int32 → Int64 → Int64 → Int64 → Int64 → Int64 → (Nat → Int32) → (Nat → Int32) → Int32 → Int32 → Int32 → Prop} (hq : ∀ r sz' hr' md' ca' fi' vo' at_' su' cs_reader_letters_length' cs_reader_draft_size' cs_reader_draft_heard' cs_reader_draft_mode' cs_reader_draft_cast' cs_reader_draft_figures' cs_reader_draft_voices' cs_reader_draft_attacks' cs_reader_draft_supports' gw' mg_laid' ms_lettered' ms_reading' ms_isWell', HR sz' hr' md' ca' fi' vo' at_' su' gw' → LTR 96 256 cg_reader_letters_numbers cs_reader_letters_length' mg_letters ms_lettered' → Q r r sz' hr' md' ca' fi' vo' at_' su' cs_reader_letters_length' cs_reader_draft_size' cs_reader_draft_heard' cs_reader_draft_mode' cs_reader_draft_cast' cs_reader_draft_figures' cs_reader_draft_voices' cs_reader_draft_attacks' cs_reader_draft_supports' gw' mg_laid' ms_lettered' ms_reading' ms_isWell') : wp_X10_hall (fun r sz' hr' md' ca' fi' vo' at_' su' cs_reader_letters_length' cs_reader_draft_size' cs_reader_draft_heard' cs_reader_draft_mode' cs_reader_draft_cast' cs_reader_draft_figures' cs_reader_draft_voices' cs_reader_draft_attacks' cs_reader_draft_supports' => wp_X11_hall (fun r2 gw' mg_laid' ms_lettered' ms_reading' ms_isWell' => Q r r2 sz' hr' md' ca' fi' vo' at_' su' cs_reader_letters_length' cs_reader_draft_size' cs_reader_draft_heard' cs_reader_draft_mode' cs_reader_draft_cast' cs_reader_draft_figures' cs_reader_draft_voices' cs_reader_draft_attacks' cs_reader_draft_supports' gw' mg_laid' ms_lettered' ms_reading' ms_isWell') gw mg_laid mg_letters ms_lettered ms_reading ms_isWell) sz hr md ca fi vo at_ su cg_reader_letters_numbers cs_reader_letters_length cs_reader_draft_size cs_reader_draft_heard cs_reader_draft_mode cs_reader_draft_cast cs_reader_draft_figures cs_reader_draft_voices cs_reader_draft_attacks cs_reader_draft_supports := by
  generalize hP : (fun r sz' hr' md' ca' fi' vo' at_' su' cs_reader_letters_length' cs_reader_draft_size' cs_reader_draft_heard' cs_reader_draft_mode' cs_reader_draft_cast' cs_reader_draft_figures' cs_reader_draft_voices' cs_reader_draft_attacks' cs_reader_draft_supports' => wp_X11_hall (fun r2 gw' mg_laid' ms_lettered' ms_reading' ms_isWell' => Q r r2 sz' hr' md' ca' fi' vo' at_' su' cs_reader_letters_length' cs_reader_draft_size' cs_reader_draft_heard' cs_reader_draft_mode' cs_reader_draft_cast' cs_reader_draft_figures' cs_reader_draft_voices' cs_reader_draft_attacks' cs_reader_draft_supports' gw' mg_laid' ms_lettered' ms_reading' ms_isWell') gw mg_laid mg_letters ms_lettered ms_reading ms_isWell) = P
  obtain ⟨h, H, e, hw⟩ := hH
  obtain ⟨n, f, ⟨hn, rfl, rfl⟩, ⟨a1, a2⟩, hb⟩ := hL
  unfold wp_X10_hall
  refine s_read hn a1 hb H e (fun d1 d2 d3 d4 d5 d6 d7 d8 p1 p2 p3 p4 p5 p6 p7 p8 e2 => ?_)
  rw [← hP]
  unfold wp_X11_hall
  refine m_readsAll hn a2 hb H hw (fun gw hw2 gla rd wl => ?_)
  exact hq _ _ _ _ _ _ _ _ _ _ _ _ _ _ _ _ _ _ _ _ _ _ _ ⟨_, rdH_ok H, e2, hw2⟩ ⟨0, f, ⟨Nat.zero_le _, rfl, rfl⟩, ⟨a1.le (Nat.zero_le _), a2.le (Nat.zero_le _)⟩, fun k hk => absurd hk (Nat.not_lt_zero k)⟩
theorem sim_row {cg_numbers_numbers : Nat → Int32} {cs_numbers_length : Int32} {mg_row : Nat → Int32} {ms_rows : Int32} {cg_refusals : Nat → Int32} {mg_refusals : Nat → Int32} {x1 : Int32} (hW : LTR 12 10 cg_numbers_numbers cs_numbers_length mg_row ms_rows) (hR : rfE cg_refusals mg_refusals) {Q : Int32 → Int32 → (Nat → Int32) → Int32 → (Nat → Int32) → (Nat → Int32) → (Nat → Int32) → Int32 → Prop} (hq : ∀ r cg_numbers_numbers' cs_numbers_length' cg_refusals' mg_refusals' mg_row' ms_rows', LTR 12 10 cg_numbers_numbers' cs_numbers_length' mg_row' ms_rows' → rfE cg_refusals' mg_refusals' → Q r r cg_numbers_numbers' cs_numbers_length' cg_refusals' mg_refusals' mg_row' ms_rows') : wp_X10_row (fun r cg_numbers_numbers' cs_numbers_length' cg_refusals' => wp_X11_row (fun r2 mg_refusals' mg_row' ms_rows' => Q r r2 cg_numbers_numbers' cs_numbers_length' cg_refusals' mg_refusals' mg_row' ms_rows') mg_refusals mg_row ms_rows x1) cg_numbers_numbers cs_numbers_length cg_refusals x1 := by
  generalize hP : (fun r cg_numbers_numbers' cs_numbers_length' cg_refusals' => wp_X11_row (fun r2 mg_refusals' mg_row' ms_rows' => Q r r2 cg_numbers_numbers' cs_numbers_length' cg_refusals' mg_refusals' mg_row' ms_rows') mg_refusals mg_row ms_rows x1) = P
  obtain ⟨n, f, ⟨hn, rfl, rfl⟩, ⟨a1, a2⟩, hb⟩ := hW
  unfold wp_X10_row
  unfold wp_X11_row at hP
  rw [lx_9] at hP
  rcases i_cases x1 (n := 9) (by decide) with ⟨c, hc, rfl⟩ | ⟨z1, z2⟩ | ⟨⟨z1, z2⟩, ⟨z3, z4⟩, z5, z6⟩
  · refine wt (nI_pos' (by omega)) (wf (nI_ge (by omega) (by decide)) ?_)
    refine s_full6 (by decide) (by omega) ?_
    refine zc (fun y => ?_) (fun y => ?_)
    · have y1 := of_decide_eq_false y
      refine s_add6 (by decide) (by omega) ?_
      rw [← hP]
      refine m_inN (by decide) (by decide) (fun _ _ _ _ => ?_) (fun q => absurd ⟨c, ⟨Nat.zero_le _, hc⟩, rfl⟩ q)
      refine wf2 n1_0 (wf2 (fun k => by have := (nI_eq (by omega) (by decide)).mp k; omega) ⟨vp_in_nI (by omega) (by decide), ?_⟩)
      rw [nS n, nI_clamp (by omega)]
      refine hq _ _ _ _ _ _ _ ⟨n + 1, upN f n c, ⟨by omega, rfl, rfl⟩, ⟨a1.app, a2.app⟩, fun k hk => ?_⟩ hR
      by_cases e : k = n
      · subst e; rw [upN_s]; omega
      · rw [upN_n _ e]; exact hb k (by omega)
    · have y1 := of_decide_eq_true y
      refine s_refuse rx6 (by decide) (by decide) ?_
      rw [← hP]
      refine m_inN (by decide) (by decide) (fun _ _ _ _ => ?_) (fun q => absurd ⟨c, ⟨Nat.zero_le _, hc⟩, rfl⟩ q)
      refine wf2 n1_0 (wt2 (by rw [show n = 12 by omega]) ?_)
      exact m_refused rx6 (by decide) (hq _ _ _ _ _ _ _ ⟨n, f, ⟨hn, rfl, rfl⟩, ⟨a1, a2⟩, hb⟩ (hR.up 6))
  · refine wf z2 (s_refuse rx4 (by decide) (by decide) ?_)
    rw [← hP]
    refine m_inN (by decide) (by decide) (fun c _ hc e => absurd ⟨c, ⟨Nat.zero_le _, hc⟩, e⟩ (i_no1 (by decide) z1)) (fun _ => ?_)
    refine wt2 rfl (wf z2 ?_)
    exact m_refused rx4 (by decide) (hq _ _ _ _ _ _ _ ⟨n, f, ⟨hn, rfl, rfl⟩, ⟨a1, a2⟩, hb⟩ (hR.up 4))
  · refine wt z2 (wt z5 (s_refuse rx6 (by decide) (by decide) ?_))
    rw [← hP]
    refine m_inN (by decide) (by decide) (fun c _ hc e => absurd ⟨c, ⟨Nat.zero_le _, hc⟩, e⟩ (i_no2 (by decide) z3)) (fun _ => ?_)
    refine wt2 rfl (wt z2 ?_)
    exact m_refused rx6 (by decide) (hq _ _ _ _ _ _ _ ⟨n, f, ⟨hn, rfl, rfl⟩, ⟨a1, a2⟩, hb⟩ (hR.up 6))
theorem sim_mode {sz : Int32} {hr : Int32} {md : Int32} {ca : Int64} {fi : Int64} {vo : Int64} {at_ : Int64} {su : Int64} {gw : Nat → Int32} {cg_refusals : Nat → Int32} {mg_refusals : Nat → Int32} {x1 : Int32} (hH : HR sz hr md ca fi vo at_ su gw) (hR : rfE cg_refusals mg_refusals) {Q : Int32 → Int32 → Int32 → (Nat → Int32) → (Nat → Int32) → (Nat → Int32) → Prop} (hq : ∀ r md' cg_refusals' gw' mg_refusals', HR sz hr md' ca fi vo at_ su gw' → rfE cg_refusals' mg_refusals' → Q r r md' cg_refusals' gw' mg_refusals') : wp_X10_mode (fun r md' cg_refusals' => wp_X11_mode (fun r2 gw' mg_refusals' => Q r r2 md' cg_refusals' gw' mg_refusals') gw mg_refusals x1) md cg_refusals x1 := by
  generalize hP : (fun r md' cg_refusals' => wp_X11_mode (fun r2 gw' mg_refusals' => Q r r2 md' cg_refusals' gw' mg_refusals') gw mg_refusals x1) = P
  obtain ⟨h, H, e, hw⟩ := hH
  have h3 := H.2.1
  unfold wp_X10_mode
  unfold wp_X11_mode at hP
  rw [lx_3] at hP
  rcases i_cases x1 (n := 3) (by decide) with ⟨c, hc, rfl⟩ | ⟨z1, z2⟩ | ⟨⟨z1, z2⟩, ⟨z3, z4⟩, z5, z6⟩
  · refine wt (nI_pos' (by omega)) (wt (nI_lt (by omega) (by decide)) ?_)
    rw [← hP]
    refine m_inN (by decide) (by decide) (fun _ _ _ _ => ?_) (fun q => absurd ⟨c, ⟨Nat.zero_le _, hc⟩, rfl⟩ q)
    refine wf2 n1_0 ⟨vp_in_nI (by decide) (by decide), vp_in_nI (by decide) (by decide), ?_⟩
    rw [nI_clamp (show 41 < 2 ^ 31 by decide), hw 41 (by decide), e.2.2.1]
    exact hq _ _ _ _ _ ⟨_, H.set_md hc, e.md_up c, hw.set 41 c⟩ hR
  · refine wf z2 (s_refuse rx4 (by decide) (by decide) ?_)
    rw [← hP]
    refine m_inN (by decide) (by decide) (fun c _ hc e => absurd ⟨c, ⟨Nat.zero_le _, hc⟩, e⟩ (i_no1 (by decide) z1)) (fun _ => ?_)
    refine wt2 rfl (wf z2 ?_)
    exact m_refused rx4 (by decide) (hq _ _ _ _ _ ⟨h, H, e, hw⟩ (hR.up 4))
  · refine wt z2 (wf z6 (s_refuse rx6 (by decide) (by decide) ?_))
    rw [← hP]
    refine m_inN (by decide) (by decide) (fun c _ hc e => absurd ⟨c, ⟨Nat.zero_le _, hc⟩, e⟩ (i_no2 (by decide) z3)) (fun _ => ?_)
    refine wt2 rfl (wt z2 ?_)
    exact m_refused rx6 (by decide) (hq _ _ _ _ _ ⟨h, H, e, hw⟩ (hR.up 6))
theorem sim_image {sz : Int32} {hr : Int32} {md : Int32} {ca : Int64} {fi : Int64} {vo : Int64} {at_ : Int64} {su : Int64} {gw : Nat → Int32} {ksz : Int32} {khr : Int32} {kmd : Int32} {kca : Int64} {kfi : Int64} {kvo : Int64} {kat : Int64} {ksu : Int64} {cs_isKept : Int32} {gk : Nat → Int32} {ms_hasImage : Int32} (hH : HR sz hr md ca fi vo at_ su gw) (hK : KPR ksz khr kmd kca kfi kvo kat ksu cs_isKept gk ms_hasImage) {Q : Int32 → Int32 → Int32 → Int32 → Int32 → Int64 → Int64 → Int64 → Int64 → Int64 → Int32 → (Nat → Int32) → Int32 → Prop} (hq : ∀ r ksz' khr' kmd' kca' kfi' kvo' kat' ksu' cs_isKept' gk' ms_hasImage', KPR ksz' khr' kmd' kca' kfi' kvo' kat' ksu' cs_isKept' gk' ms_hasImage' → Q r r ksz' khr' kmd' kca' kfi' kvo' kat' ksu' cs_isKept' gk' ms_hasImage') : wp_X10_image (fun r ksz' khr' kmd' kca' kfi' kvo' kat' ksu' cs_isKept' => wp_X11_image (fun r2 gk' ms_hasImage' => Q r r2 ksz' khr' kmd' kca' kfi' kvo' kat' ksu' cs_isKept' gk' ms_hasImage') gw gk ms_hasImage) sz hr md ca fi vo at_ su ksz khr kmd kca kfi kvo kat ksu cs_isKept := by
  generalize hP : (fun r ksz' khr' kmd' kca' kfi' kvo' kat' ksu' cs_isKept' => wp_X11_image (fun r2 gk' ms_hasImage' => Q r r2 ksz' khr' kmd' kca' kfi' kvo' kat' ksu' cs_isKept' gk' ms_hasImage') gw gk ms_hasImage) = P
  obtain ⟨h, H, e, hw⟩ := hH
  unfold wp_X10_image wp_X3_take
  rw [← hP]
  unfold wp_X11_image
  refine m_copies (fun g hg => ⟨vp_in_nI (by decide) (by decide), ?_⟩)
  rw [hw.rd (by decide) (by decide), e.1]
  have he := e
  rw [e.1] at he
  exact hq _ _ _ _ _ _ _ _ _ _ _ _ (Or.inr ⟨⟨rfl, rfl⟩, h, H, he, fun j hj => by rw [hg j hj]; exact hw j hj⟩)
theorem sim_on {sz : Int32} {hr : Int32} {md : Int32} {ca : Int64} {fi : Int64} {vo : Int64} {at_ : Int64} {su : Int64} {gw : Nat → Int32} {ksz : Int32} {khr : Int32} {kmd : Int32} {kca : Int64} {kfi : Int64} {kvo : Int64} {kat : Int64} {ksu : Int64} {cs_isKept : Int32} {gk : Nat → Int32} {ms_hasImage : Int32} {cg_refusals : Nat → Int32} {mg_refusals : Nat → Int32} (hH : HR sz hr md ca fi vo at_ su gw) (hK : KPR ksz khr kmd kca kfi kvo kat ksu cs_isKept gk ms_hasImage) (hR : rfE cg_refusals mg_refusals) {Q : Int32 → Int32 → Int32 → Int32 → Int32 → Int64 → Int64 → Int64 → Int64 → Int64 → (Nat → Int32) → (Nat → Int32) → (Nat → Int32) → Prop} (hq : ∀ r sz' hr' md' ca' fi' vo' at_' su' cg_refusals' gw' mg_refusals', HR sz' hr' md' ca' fi' vo' at_' su' gw' → rfE cg_refusals' mg_refusals' → Q r r sz' hr' md' ca' fi' vo' at_' su' cg_refusals' gw' mg_refusals') : wp_X10_on (fun r sz' hr' md' ca' fi' vo' at_' su' cg_refusals' => wp_X11_on (fun r2 gw' mg_refusals' => Q r r2 sz' hr' md' ca' fi' vo' at_' su' cg_refusals' gw' mg_refusals') gw gk ms_hasImage mg_refusals) sz hr md ca fi vo at_ su ksz khr kmd kca kfi kvo kat ksu cg_refusals cs_isKept := by
  generalize hP : (fun r sz' hr' md' ca' fi' vo' at_' su' cg_refusals' => wp_X11_on (fun r2 gw' mg_refusals' => Q r r2 sz' hr' md' ca' fi' vo' at_' su' cg_refusals' gw' mg_refusals') gw gk ms_hasImage mg_refusals) = P
  unfold wp_X10_on
  rcases hK with ⟨rfl, rfl⟩ | ⟨⟨rfl, rfl⟩, k, K, ke, kw⟩
  · refine wt2 rfl (s_refuse rx3 (by decide) (by decide) ?_)
    rw [← hP]
    unfold wp_X11_on
    refine wt2 rfl (m_refused rx3 (by decide) ?_)
    exact hq _ _ _ _ _ _ _ _ _ _ _ _ hH (hR.up 3)
  · refine wf2 n1_0 ?_
    unfold wp_X3_take
    rw [← hP]
    unfold wp_X11_on
    refine wf2 n1_0 (m_copies (fun g hg => ⟨vp_in_nI (by decide) (by decide), ?_⟩))
    have gw2 : ag 43 g k := fun j hj => by rw [hg j hj]; exact kw j hj
    rw [gw2.rd (by decide) (by decide), ke.1]
    have ke2 := ke
    rw [ke.1] at ke2
    exact hq _ _ _ _ _ _ _ _ _ _ _ _ ⟨k, K, ke2, gw2⟩ hR
