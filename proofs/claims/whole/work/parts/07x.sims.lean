/-! the simulations, twentieth part -/
theorem lx_11 : (11 : Int64) = lN 11 := by decide +kernel
theorem lx_16 : (16 : Int64) = lN 16 := by decide +kernel
theorem ten_off {x : Int32} (h : x < 0 ∨ nI 16 < x) : x - nI 10 ≤ 0 ∨ nI 7 ≤ x - nI 10 := by
  have e0 : (0 : Int32).toInt = 0 := by decide +kernel
  have l1 := x.toInt_lt
  have l2 := x.le_toInt
  simp only [Int32.lt_iff_toInt_lt, Int32.le_iff_toInt_le, Int32.toInt_sub, nI_toInt (show 10 < 2 ^ 31 by decide), nI_toInt (show 7 < 2 ^ 31 by decide), nI_toInt (show 16 < 2 ^ 31 by decide), e0] at h ⊢
  rw [Int.bmod_def]
  split <;> omega
theorem sim_count {sz : Int32} {hr : Int32} {md : Int32} {ca : Int64} {fi : Int64} {vo : Int64} {at_ : Int64} {su : Int64} {gw : Nat → Int32} {cg_reader_letters_numbers : Nat → Int32} {cs_reader_letters_length : Int32} {mg_letters : Nat → Int32} {ms_lettered : Int32} {cg_numbers_numbers : Nat → Int32} {cs_numbers_length : Int32} {mg_row : Nat → Int32} {ms_rows : Int32} {cg_refusals : Nat → Int32} {mg_refusals : Nat → Int32} {x1 : Int32} (hH : HR sz hr md ca fi vo at_ su gw) (hL : LTR 96 256 cg_reader_letters_numbers cs_reader_letters_length mg_letters ms_lettered) (hW : LTR 12 10 cg_numbers_numbers cs_numbers_length mg_row ms_rows) (hR : rfE cg_refusals mg_refusals) {Q : Int32 → Int32 → Prop} (hq : ∀ r, Q r r) : wp_X10_count (fun r  => wp_X11_count (fun r2  => Q r r2 ) gw mg_refusals ms_rows ms_lettered x1) sz hr md at_ su cs_reader_letters_length cs_numbers_length cg_refusals x1 := by
  generalize hP : (fun r  => wp_X11_count (fun r2  => Q r r2 ) gw mg_refusals ms_rows ms_lettered x1) = P
  obtain ⟨h, H, e, hw⟩ := hH
  have h8 := H.1
  obtain ⟨rfl, rfl, rfl, rfl, rfl, rfl, rfl, rfl⟩ := e
  obtain ⟨ln, lf, ⟨hln, rfl, rfl⟩, _, _⟩ := hL
  obtain ⟨rn, rf, ⟨hrn, rfl, rfl⟩, _, _⟩ := hW
  unfold wp_X10_count
  unfold wp_X11_count at hP
  rw [lx_11, lx_16] at hP
  rcases i_cases x1 (n := 16) (by decide) with ⟨k, hk, rfl⟩ | ⟨z1, z2⟩ | ⟨⟨z1, z2⟩, ⟨z3, z4⟩, z5, z6⟩
  · have hk16 : k = 0 ∨ k = 1 ∨ k = 2 ∨ k = 3 ∨ k = 4 ∨ k = 5 ∨ k = 6 ∨ k = 7 ∨ k = 8 ∨ k = 9 ∨ k = 10 ∨ k = 11 ∨ k = 12 ∨ k = 13 ∨ k = 14 ∨ k = 15 ∨ k = 16 := by omega
    rcases hk16 with rfl | rfl | rfl | rfl | rfl | rfl | rfl | rfl | rfl | rfl | rfl | rfl | rfl | rfl | rfl | rfl | rfl
    · refine ⟨sw_lo (n := 6) (by decide) (by decide), fun _ => ?_, sw_ne (by decide) (by decide) (by decide), sw_ne (by decide) (by decide) (by decide), sw_ne (by decide) (by decide) (by decide), sw_ne (by decide) (by decide) (by decide), sw_ne (by decide) (by decide) (by decide), sw_ne (by decide) (by decide) (by decide)⟩
      rw [← hP]
      refine ⟨sw_lo (n := 6) (by decide) (by decide), fun _ => ?_, sw_ne (by decide) (by decide) (by decide), sw_ne (by decide) (by decide) (by decide), sw_ne (by decide) (by decide) (by decide), sw_ne (by decide) (by decide) (by decide), sw_ne (by decide) (by decide) (by decide), sw_ne (by decide) (by decide) (by decide)⟩
      refine ⟨vp_in_nI (by decide) (by decide), ?_⟩
      rw [hw.rd (by decide) (by decide)]
      exact hq _
    · refine ⟨sw_lo (n := 6) (by decide) (by decide), sw_ne (by decide) (by decide) (by decide), fun _ => ?_, sw_ne (by decide) (by decide) (by decide), sw_ne (by decide) (by decide) (by decide), sw_ne (by decide) (by decide) (by decide), sw_ne (by decide) (by decide) (by decide), sw_ne (by decide) (by decide) (by decide)⟩
      rw [← hP]
      refine ⟨sw_lo (n := 6) (by decide) (by decide), sw_ne (by decide) (by decide) (by decide), fun _ => ?_, sw_ne (by decide) (by decide) (by decide), sw_ne (by decide) (by decide) (by decide), sw_ne (by decide) (by decide) (by decide), sw_ne (by decide) (by decide) (by decide), sw_ne (by decide) (by decide) (by decide)⟩
      refine ⟨vp_in_nI (by decide) (by decide), ?_⟩
      rw [hw.rd (by decide) (by decide)]
      exact hq _
    · refine ⟨sw_lo (n := 6) (by decide) (by decide), sw_ne (by decide) (by decide) (by decide), sw_ne (by decide) (by decide) (by decide), fun _ => ?_, sw_ne (by decide) (by decide) (by decide), sw_ne (by decide) (by decide) (by decide), sw_ne (by decide) (by decide) (by decide), sw_ne (by decide) (by decide) (by decide)⟩
      refine s_longCount H.r_at ?_
      rw [← hP]
      refine ⟨sw_lo (n := 6) (by decide) (by decide), sw_ne (by decide) (by decide) (by decide), sw_ne (by decide) (by decide) (by decide), fun _ => ?_, sw_ne (by decide) (by decide) (by decide), sw_ne (by decide) (by decide) (by decide), sw_ne (by decide) (by decide) (by decide), sw_ne (by decide) (by decide) (by decide)⟩
      refine m_onesIn hw H (b := 24) (by decide) (fun c hc => H.at_ hc) (fun c hc hz => ((H.2.2.2 c hc).2.2.2 hz).2.1) ?_
      exact hq _
    · refine ⟨sw_lo (n := 6) (by decide) (by decide), sw_ne (by decide) (by decide) (by decide), sw_ne (by decide) (by decide) (by decide), sw_ne (by decide) (by decide) (by decide), fun _ => ?_, sw_ne (by decide) (by decide) (by decide), sw_ne (by decide) (by decide) (by decide), sw_ne (by decide) (by decide) (by decide)⟩
      refine s_longCount H.r_su ?_
      rw [← hP]
      refine ⟨sw_lo (n := 6) (by decide) (by decide), sw_ne (by decide) (by decide) (by decide), sw_ne (by decide) (by decide) (by decide), sw_ne (by decide) (by decide) (by decide), fun _ => ?_, sw_ne (by decide) (by decide) (by decide), sw_ne (by decide) (by decide) (by decide), sw_ne (by decide) (by decide) (by decide)⟩
      refine m_onesIn hw H (b := 32) (by decide) (fun c hc => H.su hc) (fun c hc hz => ((H.2.2.2 c hc).2.2.2 hz).2.2) ?_
      exact hq _
    · refine ⟨sw_lo (n := 6) (by decide) (by decide), sw_ne (by decide) (by decide) (by decide), sw_ne (by decide) (by decide) (by decide), sw_ne (by decide) (by decide) (by decide), sw_ne (by decide) (by decide) (by decide), fun _ => ?_, sw_ne (by decide) (by decide) (by decide), sw_ne (by decide) (by decide) (by decide)⟩
      rw [← hP]
      refine ⟨sw_lo (n := 6) (by decide) (by decide), sw_ne (by decide) (by decide) (by decide), sw_ne (by decide) (by decide) (by decide), sw_ne (by decide) (by decide) (by decide), sw_ne (by decide) (by decide) (by decide), fun _ => ?_, sw_ne (by decide) (by decide) (by decide), sw_ne (by decide) (by decide) (by decide)⟩
      refine ⟨vp_in_nI (by decide) (by decide), ?_⟩
      rw [hw.rd (by decide) (by decide)]
      exact hq _
    · refine ⟨sw_lo (n := 6) (by decide) (by decide), sw_ne (by decide) (by decide) (by decide), sw_ne (by decide) (by decide) (by decide), sw_ne (by decide) (by decide) (by decide), sw_ne (by decide) (by decide) (by decide), sw_ne (by decide) (by decide) (by decide), fun _ => ?_, sw_ne (by decide) (by decide) (by decide)⟩
      rw [← hP]
      refine ⟨sw_lo (n := 6) (by decide) (by decide), sw_ne (by decide) (by decide) (by decide), sw_ne (by decide) (by decide) (by decide), sw_ne (by decide) (by decide) (by decide), sw_ne (by decide) (by decide) (by decide), sw_ne (by decide) (by decide) (by decide), fun _ => ?_, sw_ne (by decide) (by decide) (by decide)⟩
      exact hq _
    · refine ⟨sw_lo (n := 6) (by decide) (by decide), sw_ne (by decide) (by decide) (by decide), sw_ne (by decide) (by decide) (by decide), sw_ne (by decide) (by decide) (by decide), sw_ne (by decide) (by decide) (by decide), sw_ne (by decide) (by decide) (by decide), sw_ne (by decide) (by decide) (by decide), fun _ => ?_⟩
      rw [← hP]
      refine ⟨sw_lo (n := 6) (by decide) (by decide), sw_ne (by decide) (by decide) (by decide), sw_ne (by decide) (by decide) (by decide), sw_ne (by decide) (by decide) (by decide), sw_ne (by decide) (by decide) (by decide), sw_ne (by decide) (by decide) (by decide), sw_ne (by decide) (by decide) (by decide), fun _ => ?_⟩
      exact hq _
    · refine ⟨fun _ => ?_, sw_ne (by decide) (by decide) (by decide), sw_ne (by decide) (by decide) (by decide), sw_ne (by decide) (by decide) (by decide), sw_ne (by decide) (by decide) (by decide), sw_ne (by decide) (by decide) (by decide), sw_ne (by decide) (by decide) (by decide), sw_ne (by decide) (by decide) (by decide)⟩
      unfold wp_X10_refusalsAt
      refine wt (by decide +kernel) ?_
      rw [← hP]
      refine ⟨fun _ => ?_, sw_ne (by decide) (by decide) (by decide), sw_ne (by decide) (by decide) (by decide), sw_ne (by decide) (by decide) (by decide), sw_ne (by decide) (by decide) (by decide), sw_ne (by decide) (by decide) (by decide), sw_ne (by decide) (by decide) (by decide), sw_ne (by decide) (by decide) (by decide)⟩
      refine m_inN (by decide) (by decide) (fun c c1 c2 ec => ?_) (fun _ => wt rfl (hq _))
      have := (nI_eq (by omega) (by omega)).mp ec
      omega
    · refine ⟨fun _ => ?_, sw_ne (by decide) (by decide) (by decide), sw_ne (by decide) (by decide) (by decide), sw_ne (by decide) (by decide) (by decide), sw_ne (by decide) (by decide) (by decide), sw_ne (by decide) (by decide) (by decide), sw_ne (by decide) (by decide) (by decide), sw_ne (by decide) (by decide) (by decide)⟩
      unfold wp_X10_refusalsAt
      refine wt (by decide +kernel) ?_
      rw [← hP]
      refine ⟨fun _ => ?_, sw_ne (by decide) (by decide) (by decide), sw_ne (by decide) (by decide) (by decide), sw_ne (by decide) (by decide) (by decide), sw_ne (by decide) (by decide) (by decide), sw_ne (by decide) (by decide) (by decide), sw_ne (by decide) (by decide) (by decide), sw_ne (by decide) (by decide) (by decide)⟩
      refine m_inN (by decide) (by decide) (fun c c1 c2 ec => ?_) (fun _ => wt rfl (hq _))
      have := (nI_eq (by omega) (by omega)).mp ec
      omega
    · refine ⟨fun _ => ?_, sw_ne (by decide) (by decide) (by decide), sw_ne (by decide) (by decide) (by decide), sw_ne (by decide) (by decide) (by decide), sw_ne (by decide) (by decide) (by decide), sw_ne (by decide) (by decide) (by decide), sw_ne (by decide) (by decide) (by decide), sw_ne (by decide) (by decide) (by decide)⟩
      unfold wp_X10_refusalsAt
      refine wt (by decide +kernel) ?_
      rw [← hP]
      refine ⟨fun _ => ?_, sw_ne (by decide) (by decide) (by decide), sw_ne (by decide) (by decide) (by decide), sw_ne (by decide) (by decide) (by decide), sw_ne (by decide) (by decide) (by decide), sw_ne (by decide) (by decide) (by decide), sw_ne (by decide) (by decide) (by decide), sw_ne (by decide) (by decide) (by decide)⟩
      refine m_inN (by decide) (by decide) (fun c c1 c2 ec => ?_) (fun _ => wt rfl (hq _))
      have := (nI_eq (by omega) (by omega)).mp ec
      omega
    · refine ⟨fun _ => ?_, sw_ne (by decide) (by decide) (by decide), sw_ne (by decide) (by decide) (by decide), sw_ne (by decide) (by decide) (by decide), sw_ne (by decide) (by decide) (by decide), sw_ne (by decide) (by decide) (by decide), sw_ne (by decide) (by decide) (by decide), sw_ne (by decide) (by decide) (by decide)⟩
      unfold wp_X10_refusalsAt
      refine wt (by decide +kernel) ?_
      rw [← hP]
      refine ⟨fun _ => ?_, sw_ne (by decide) (by decide) (by decide), sw_ne (by decide) (by decide) (by decide), sw_ne (by decide) (by decide) (by decide), sw_ne (by decide) (by decide) (by decide), sw_ne (by decide) (by decide) (by decide), sw_ne (by decide) (by decide) (by decide), sw_ne (by decide) (by decide) (by decide)⟩
      refine m_inN (by decide) (by decide) (fun c c1 c2 ec => ?_) (fun _ => wt rfl (hq _))
      have := (nI_eq (by omega) (by omega)).mp ec
      omega
    · refine ⟨fun _ => ?_, sw_ne (by decide) (by decide) (by decide), sw_ne (by decide) (by decide) (by decide), sw_ne (by decide) (by decide) (by decide), sw_ne (by decide) (by decide) (by decide), sw_ne (by decide) (by decide) (by decide), sw_ne (by decide) (by decide) (by decide), sw_ne (by decide) (by decide) (by decide)⟩
      unfold wp_X10_refusalsAt
      rw [show nI 11 - nI 10 = nI 1 by decide +kernel]
      refine wf (by decide +kernel) (wf (by decide +kernel) ?_)
      refine ⟨vp_in_nI (by decide) (by decide), ?_⟩
      rw [nI_clamp (by decide), hR 1 (by decide), ← hP]
      refine ⟨fun _ => ?_, sw_ne (by decide) (by decide) (by decide), sw_ne (by decide) (by decide) (by decide), sw_ne (by decide) (by decide) (by decide), sw_ne (by decide) (by decide) (by decide), sw_ne (by decide) (by decide) (by decide), sw_ne (by decide) (by decide) (by decide), sw_ne (by decide) (by decide) (by decide)⟩
      refine m_inN (by decide) (by decide) (fun _ _ _ _ => wf n1_0 ?_) (fun q => absurd ⟨11, ⟨by decide, by decide⟩, rfl⟩ q)
      rw [show nI 11 - nI 10 = nI 1 by decide +kernel]
      refine ⟨vp_in_nI (by decide) (by decide), ?_⟩
      rw [nI_clamp (by decide)]
      exact hq _
    · refine ⟨fun _ => ?_, sw_ne (by decide) (by decide) (by decide), sw_ne (by decide) (by decide) (by decide), sw_ne (by decide) (by decide) (by decide), sw_ne (by decide) (by decide) (by decide), sw_ne (by decide) (by decide) (by decide), sw_ne (by decide) (by decide) (by decide), sw_ne (by decide) (by decide) (by decide)⟩
      unfold wp_X10_refusalsAt
      rw [show nI 12 - nI 10 = nI 2 by decide +kernel]
      refine wf (by decide +kernel) (wf (by decide +kernel) ?_)
      refine ⟨vp_in_nI (by decide) (by decide), ?_⟩
      rw [nI_clamp (by decide), hR 2 (by decide), ← hP]
      refine ⟨fun _ => ?_, sw_ne (by decide) (by decide) (by decide), sw_ne (by decide) (by decide) (by decide), sw_ne (by decide) (by decide) (by decide), sw_ne (by decide) (by decide) (by decide), sw_ne (by decide) (by decide) (by decide), sw_ne (by decide) (by decide) (by decide), sw_ne (by decide) (by decide) (by decide)⟩
      refine m_inN (by decide) (by decide) (fun _ _ _ _ => wf n1_0 ?_) (fun q => absurd ⟨12, ⟨by decide, by decide⟩, rfl⟩ q)
      rw [show nI 12 - nI 10 = nI 2 by decide +kernel]
      refine ⟨vp_in_nI (by decide) (by decide), ?_⟩
      rw [nI_clamp (by decide)]
      exact hq _
    · refine ⟨fun _ => ?_, sw_ne (by decide) (by decide) (by decide), sw_ne (by decide) (by decide) (by decide), sw_ne (by decide) (by decide) (by decide), sw_ne (by decide) (by decide) (by decide), sw_ne (by decide) (by decide) (by decide), sw_ne (by decide) (by decide) (by decide), sw_ne (by decide) (by decide) (by decide)⟩
      unfold wp_X10_refusalsAt
      rw [show nI 13 - nI 10 = nI 3 by decide +kernel]
      refine wf (by decide +kernel) (wf (by decide +kernel) ?_)
      refine ⟨vp_in_nI (by decide) (by decide), ?_⟩
      rw [nI_clamp (by decide), hR 3 (by decide), ← hP]
      refine ⟨fun _ => ?_, sw_ne (by decide) (by decide) (by decide), sw_ne (by decide) (by decide) (by decide), sw_ne (by decide) (by decide) (by decide), sw_ne (by decide) (by decide) (by decide), sw_ne (by decide) (by decide) (by decide), sw_ne (by decide) (by decide) (by decide), sw_ne (by decide) (by decide) (by decide)⟩
      refine m_inN (by decide) (by decide) (fun _ _ _ _ => wf n1_0 ?_) (fun q => absurd ⟨13, ⟨by decide, by decide⟩, rfl⟩ q)
      rw [show nI 13 - nI 10 = nI 3 by decide +kernel]
      refine ⟨vp_in_nI (by decide) (by decide), ?_⟩
      rw [nI_clamp (by decide)]
      exact hq _
    · refine ⟨fun _ => ?_, sw_ne (by decide) (by decide) (by decide), sw_ne (by decide) (by decide) (by decide), sw_ne (by decide) (by decide) (by decide), sw_ne (by decide) (by decide) (by decide), sw_ne (by decide) (by decide) (by decide), sw_ne (by decide) (by decide) (by decide), sw_ne (by decide) (by decide) (by decide)⟩
      unfold wp_X10_refusalsAt
      rw [show nI 14 - nI 10 = nI 4 by decide +kernel]
      refine wf (by decide +kernel) (wf (by decide +kernel) ?_)
      refine ⟨vp_in_nI (by decide) (by decide), ?_⟩
      rw [nI_clamp (by decide), hR 4 (by decide), ← hP]
      refine ⟨fun _ => ?_, sw_ne (by decide) (by decide) (by decide), sw_ne (by decide) (by decide) (by decide), sw_ne (by decide) (by decide) (by decide), sw_ne (by decide) (by decide) (by decide), sw_ne (by decide) (by decide) (by decide), sw_ne (by decide) (by decide) (by decide), sw_ne (by decide) (by decide) (by decide)⟩
      refine m_inN (by decide) (by decide) (fun _ _ _ _ => wf n1_0 ?_) (fun q => absurd ⟨14, ⟨by decide, by decide⟩, rfl⟩ q)
      rw [show nI 14 - nI 10 = nI 4 by decide +kernel]
      refine ⟨vp_in_nI (by decide) (by decide), ?_⟩
      rw [nI_clamp (by decide)]
      exact hq _
    · refine ⟨fun _ => ?_, sw_ne (by decide) (by decide) (by decide), sw_ne (by decide) (by decide) (by decide), sw_ne (by decide) (by decide) (by decide), sw_ne (by decide) (by decide) (by decide), sw_ne (by decide) (by decide) (by decide), sw_ne (by decide) (by decide) (by decide), sw_ne (by decide) (by decide) (by decide)⟩
      unfold wp_X10_refusalsAt
      rw [show nI 15 - nI 10 = nI 5 by decide +kernel]
      refine wf (by decide +kernel) (wf (by decide +kernel) ?_)
      refine ⟨vp_in_nI (by decide) (by decide), ?_⟩
      rw [nI_clamp (by decide), hR 5 (by decide), ← hP]
      refine ⟨fun _ => ?_, sw_ne (by decide) (by decide) (by decide), sw_ne (by decide) (by decide) (by decide), sw_ne (by decide) (by decide) (by decide), sw_ne (by decide) (by decide) (by decide), sw_ne (by decide) (by decide) (by decide), sw_ne (by decide) (by decide) (by decide), sw_ne (by decide) (by decide) (by decide)⟩
      refine m_inN (by decide) (by decide) (fun _ _ _ _ => wf n1_0 ?_) (fun q => absurd ⟨15, ⟨by decide, by decide⟩, rfl⟩ q)
      rw [show nI 15 - nI 10 = nI 5 by decide +kernel]
      refine ⟨vp_in_nI (by decide) (by decide), ?_⟩
      rw [nI_clamp (by decide)]
      exact hq _
    · refine ⟨fun _ => ?_, sw_ne (by decide) (by decide) (by decide), sw_ne (by decide) (by decide) (by decide), sw_ne (by decide) (by decide) (by decide), sw_ne (by decide) (by decide) (by decide), sw_ne (by decide) (by decide) (by decide), sw_ne (by decide) (by decide) (by decide), sw_ne (by decide) (by decide) (by decide)⟩
      unfold wp_X10_refusalsAt
      rw [show nI 16 - nI 10 = nI 6 by decide +kernel]
      refine wf (by decide +kernel) (wf (by decide +kernel) ?_)
      refine ⟨vp_in_nI (by decide) (by decide), ?_⟩
      rw [nI_clamp (by decide), hR 6 (by decide), ← hP]
      refine ⟨fun _ => ?_, sw_ne (by decide) (by decide) (by decide), sw_ne (by decide) (by decide) (by decide), sw_ne (by decide) (by decide) (by decide), sw_ne (by decide) (by decide) (by decide), sw_ne (by decide) (by decide) (by decide), sw_ne (by decide) (by decide) (by decide), sw_ne (by decide) (by decide) (by decide)⟩
      refine m_inN (by decide) (by decide) (fun _ _ _ _ => wf n1_0 ?_) (fun q => absurd ⟨16, ⟨by decide, by decide⟩, rfl⟩ q)
      rw [show nI 16 - nI 10 = nI 6 by decide +kernel]
      refine ⟨vp_in_nI (by decide) (by decide), ?_⟩
      rw [nI_clamp (by decide)]
      exact hq _
  · have q : ¬ ∃ k, k ≤ 6 ∧ x1 = nI k := by
      rintro ⟨k, hk, rfl⟩
      exact nI_pos (by omega) z1
    have key : P (-9 : Int32) := by
      rw [← hP]
      refine ⟨fun _ => m_inN (by decide) (by decide) (fun c c1 c2 ec => ?_) (fun _ => wt rfl (hq _)), far_e q 0 (by decide), far_e q 1 (by decide), far_e q 2 (by decide), far_e q 3 (by decide), far_e q 4 (by decide), far_e q 5 (by decide), far_e q 6 (by decide)⟩
      rw [ec] at z1
      exact absurd z1 (nI_pos (by omega))
    refine ⟨fun _ => ?_, far_e q 0 (by decide), far_e q 1 (by decide), far_e q 2 (by decide), far_e q 3 (by decide), far_e q 4 (by decide), far_e q 5 (by decide), far_e q 6 (by decide)⟩
    unfold wp_X10_refusalsAt
    exact ⟨fun _ => key, fun n0 => ⟨fun _ => key, fun n7 => (ten_off (Or.inl z1)).elim (fun c => absurd c n0) (fun c => absurd c n7)⟩⟩
  · have q : ¬ ∃ k, k ≤ 6 ∧ x1 = nI k := by
      rintro ⟨k, hk, rfl⟩
      exact nI_nlt (by omega) (by decide) z3
    have key : P (-9 : Int32) := by
      rw [← hP]
      refine ⟨fun _ => m_inN (by decide) (by decide) (fun c c1 c2 ec => ?_) (fun _ => wt rfl (hq _)), far_e q 0 (by decide), far_e q 1 (by decide), far_e q 2 (by decide), far_e q 3 (by decide), far_e q 4 (by decide), far_e q 5 (by decide), far_e q 6 (by decide)⟩
      rw [ec] at z3
      exact absurd z3 (nI_nlt c2 (by decide))
    refine ⟨fun _ => ?_, far_e q 0 (by decide), far_e q 1 (by decide), far_e q 2 (by decide), far_e q 3 (by decide), far_e q 4 (by decide), far_e q 5 (by decide), far_e q 6 (by decide)⟩
    unfold wp_X10_refusalsAt
    exact ⟨fun _ => key, fun n0 => ⟨fun _ => key, fun n7 => (ten_off (Or.inr z3)).elim (fun c => absurd c n0) (fun c => absurd c n7)⟩⟩
