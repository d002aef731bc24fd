/-! the simulations, fourteenth part -/
theorem far_e {x : Int32} {n : Nat} (q : ¬ ∃ k, k ≤ n ∧ x = nI k) (k : Nat) (hk : k ≤ n) {A : Prop} : x = nI k → A := fun e => absurd ⟨k, hk, e⟩ q
theorem sim_claim {sz : Int32} {hr : Int32} {md : Int32} {ca : Int64} {fi : Int64} {vo : Int64} {at_ : Int64} {su : Int64} {gw : Nat → Int32} {cg_refusals : Nat → Int32} {mg_refusals : Nat → Int32} {cs_strife_hits : Int64} {cs_strife_leads : Int64} {cs_strife_defeats : Int64} {cs_strife_defeaters : Int64} {mg_hit : Nat → Int32} {mg_lead : Nat → Int32} {mg_defeat : Nat → Int32} {mg_defeater : Nat → Int32} {x1 : Int32} {x2 : Int32} (hH : HR sz hr md ca fi vo at_ su gw) (hR : rfE cg_refusals mg_refusals) {Q : Int32 → Int32 → Int64 → Int64 → Int64 → Int64 → (Nat → Int32) → (Nat → Int32) → (Nat → Int32) → (Nat → Int32) → (Nat → Int32) → (Nat → Int32) → Prop} (hq : ∀ r cs_strife_hits' cs_strife_leads' cs_strife_defeats' cs_strife_defeaters' cg_refusals' mg_refusals' mg_hit' mg_lead' mg_defeat' mg_defeater', rfE cg_refusals' mg_refusals' → Q r r cs_strife_hits' cs_strife_leads' cs_strife_defeats' cs_strife_defeaters' cg_refusals' mg_refusals' mg_hit' mg_lead' mg_defeat' mg_defeater') : wp_X10_claim (fun r cs_strife_hits' cs_strife_leads' cs_strife_defeats' cs_strife_defeaters' cg_refusals' => wp_X11_claim (fun r2 mg_refusals' mg_hit' mg_lead' mg_defeat' mg_defeater' => Q r r2 cs_strife_hits' cs_strife_leads' cs_strife_defeats' cs_strife_defeaters' cg_refusals' mg_refusals' mg_hit' mg_lead' mg_defeat' mg_defeater') gw mg_refusals mg_hit mg_lead mg_defeat mg_defeater x1 x2) sz hr md ca fi vo at_ su cs_strife_hits cs_strife_leads cs_strife_defeats cs_strife_defeaters cg_refusals x1 x2 := by
  generalize hP : (fun r cs_strife_hits' cs_strife_leads' cs_strife_defeats' cs_strife_defeaters' cg_refusals' => wp_X11_claim (fun r2 mg_refusals' mg_hit' mg_lead' mg_defeat' mg_defeater' => Q r r2 cs_strife_hits' cs_strife_leads' cs_strife_defeats' cs_strife_defeaters' cg_refusals' mg_refusals' mg_hit' mg_lead' mg_defeat' mg_defeater') gw mg_refusals mg_hit mg_lead mg_defeat mg_defeater x1 x2) = P
  obtain ⟨h, H, e, hw⟩ := hH
  have h8 := H.1
  obtain ⟨rfl, rfl, rfl, rfl, rfl, rfl, rfl, rfl⟩ := e
  unfold wp_X10_claim
  unfold wp_X11_claim at hP
  refine s_knows (by omega) (fun a ha ea => ?_) (fun q => ?_)
  · subst ea
    refine wf2 n1_0 ?_
    have ha8 : a < 8 := by omega
    have bad : (¬ ∃ k, k ≤ 9 ∧ x2 = nI k) → P (-2) cs_strife_hits cs_strife_leads cs_strife_defeats cs_strife_defeaters (upd cg_refusals 2 (cg_refusals 2 + nI 1)) := fun q => by
      rw [← hP]
      refine m_isClaimN hw H ha (wf2 n1_0 (m_reckons hw H (fun g1 g2 g3 g4 j1 j2 j3 j4 => ?_)))
      refine ⟨fun _ => m_refused rx2 (by decide) ?_, far_e q 0 (by decide), far_e q 1 (by decide), far_e q 2 (by decide), far_e q 3 (by decide), far_e q 4 (by decide), far_e q 5 (by decide), far_e q 6 (by decide), far_e q 7 (by decide), far_e q 8 (by decide), far_e q 9 (by decide)⟩
      apply hq
      exact hR.up 2
    rcases i_cases x2 (n := 9) (by decide) with ⟨k, hk, rfl⟩ | ⟨z1, z2⟩ | ⟨⟨z1, z2⟩, ⟨z3, z4⟩, z5, z6⟩
    · refine wf (nI_pos (by omega)) (wt (nI_le hk (by decide)) (s_reckon H ?_))
      have hk9 : k = 0 ∨ k = 1 ∨ k = 2 ∨ k = 3 ∨ k = 4 ∨ k = 5 ∨ k = 6 ∨ k = 7 ∨ k = 8 ∨ k = 9 := by omega
      rcases hk9 with rfl | rfl | rfl | rfl | rfl | rfl | rfl | rfl | rfl | rfl
      · refine ⟨sw_lo (n := 8) (by decide) (by decide), fun _ => ?_, sw_ne (by decide) (by decide) (by decide), sw_ne (by decide) (by decide) (by decide), sw_ne (by decide) (by decide) (by decide), sw_ne (by decide) (by decide) (by decide), sw_ne (by decide) (by decide) (by decide), sw_ne (by decide) (by decide) (by decide), sw_ne (by decide) (by decide) (by decide), sw_ne (by decide) (by decide) (by decide)⟩
        have fin : P (nI (h a)) (pL (hit h)) (pL (lead h)) (pL (dft h)) (pL (dfr h)) cg_refusals := by
          rw [← hP]
          refine m_isClaimN hw H ha (wf2 n1_0 (m_reckons hw H (fun g1 g2 g3 g4 j1 j2 j3 j4 => ?_)))
          refine ⟨sw_lo (n := 9) (by decide) (by decide), fun _ => ?_, sw_ne (by decide) (by decide) (by decide), sw_ne (by decide) (by decide) (by decide), sw_ne (by decide) (by decide) (by decide), sw_ne (by decide) (by decide) (by decide), sw_ne (by decide) (by decide) (by decide), sw_ne (by decide) (by decide) (by decide), sw_ne (by decide) (by decide) (by decide), sw_ne (by decide) (by decide) (by decide), sw_ne (by decide) (by decide) (by decide)⟩
          rw [nI_add 0 a, Nat.zero_add, nI_clamp (by omega), hw a (by omega)]
          refine ⟨vp_in_nI (by omega) (by decide), ?_⟩
          apply hq
          exact hR
        exact s_kindOf H.r_kd ha8 fin
      · refine ⟨sw_lo (n := 8) (by decide) (by decide), sw_ne (by decide) (by decide) (by decide), fun _ => ?_, sw_ne (by decide) (by decide) (by decide), sw_ne (by decide) (by decide) (by decide), sw_ne (by decide) (by decide) (by decide), sw_ne (by decide) (by decide) (by decide), sw_ne (by decide) (by decide) (by decide), sw_ne (by decide) (by decide) (by decide), sw_ne (by decide) (by decide) (by decide)⟩
        have fin : P (nI (h (8 + a))) (pL (hit h)) (pL (lead h)) (pL (dft h)) (pL (dfr h)) cg_refusals := by
          rw [← hP]
          refine m_isClaimN hw H ha (wf2 n1_0 (m_reckons hw H (fun g1 g2 g3 g4 j1 j2 j3 j4 => ?_)))
          refine ⟨sw_lo (n := 9) (by decide) (by decide), sw_ne (by decide) (by decide) (by decide), fun _ => ?_, sw_ne (by decide) (by decide) (by decide), sw_ne (by decide) (by decide) (by decide), sw_ne (by decide) (by decide) (by decide), sw_ne (by decide) (by decide) (by decide), sw_ne (by decide) (by decide) (by decide), sw_ne (by decide) (by decide) (by decide), sw_ne (by decide) (by decide) (by decide), sw_ne (by decide) (by decide) (by decide)⟩
          rw [nI_add 8 a, nI_clamp (by omega), hw (8 + a) (by omega)]
          refine ⟨vp_in_nI (by omega) (by decide), ?_⟩
          apply hq
          exact hR
        exact s_figureOf H.r_fg ha8 fin
      · refine ⟨sw_lo (n := 8) (by decide) (by decide), sw_ne (by decide) (by decide) (by decide), sw_ne (by decide) (by decide) (by decide), fun _ => ?_, sw_ne (by decide) (by decide) (by decide), sw_ne (by decide) (by decide) (by decide), sw_ne (by decide) (by decide) (by decide), sw_ne (by decide) (by decide) (by decide), sw_ne (by decide) (by decide) (by decide), sw_ne (by decide) (by decide) (by decide)⟩
        have fin : P (nI (h (16 + a))) (pL (hit h)) (pL (lead h)) (pL (dft h)) (pL (dfr h)) cg_refusals := by
          rw [← hP]
          refine m_isClaimN hw H ha (wf2 n1_0 (m_reckons hw H (fun g1 g2 g3 g4 j1 j2 j3 j4 => ?_)))
          refine ⟨sw_lo (n := 9) (by decide) (by decide), sw_ne (by decide) (by decide) (by decide), sw_ne (by decide) (by decide) (by decide), fun _ => ?_, sw_ne (by decide) (by decide) (by decide), sw_ne (by decide) (by decide) (by decide), sw_ne (by decide) (by decide) (by decide), sw_ne (by decide) (by decide) (by decide), sw_ne (by decide) (by decide) (by decide), sw_ne (by decide) (by decide) (by decide), sw_ne (by decide) (by decide) (by decide)⟩
          rw [nI_add 16 a, nI_clamp (by omega), hw (16 + a) (by omega)]
          refine ⟨vp_in_nI (by omega) (by decide), ?_⟩
          apply hq
          exact hR
        exact s_speakerOf H.r_sp ha8 fin
      · refine ⟨sw_lo (n := 8) (by decide) (by decide), sw_ne (by decide) (by decide) (by decide), sw_ne (by decide) (by decide) (by decide), sw_ne (by decide) (by decide) (by decide), fun _ => ?_, sw_ne (by decide) (by decide) (by decide), sw_ne (by decide) (by decide) (by decide), sw_ne (by decide) (by decide) (by decide), sw_ne (by decide) (by decide) (by decide), sw_ne (by decide) (by decide) (by decide)⟩
        have fin : P (zI (hd h a)) (pL (hit h)) (pL (lead h)) (pL (dft h)) (pL (dfr h)) cg_refusals := by
          rw [← hP]
          refine m_isClaimN hw H ha (wf2 n1_0 (m_reckons hw H (fun g1 g2 g3 g4 j1 j2 j3 j4 => ?_)))
          refine ⟨sw_lo (n := 9) (by decide) (by decide), sw_ne (by decide) (by decide) (by decide), sw_ne (by decide) (by decide) (by decide), sw_ne (by decide) (by decide) (by decide), fun _ => ?_, sw_ne (by decide) (by decide) (by decide), sw_ne (by decide) (by decide) (by decide), sw_ne (by decide) (by decide) (by decide), sw_ne (by decide) (by decide) (by decide), sw_ne (by decide) (by decide) (by decide), sw_ne (by decide) (by decide) (by decide)⟩
          refine ⟨vp_in_nI (by decide) (by decide), ?_⟩
          rw [hw.rd (by decide) (by decide), shr_nI (by have := H.heard; omega) (by omega), bit_zI]
          apply hq
          exact hR
        refine s_hears H ha (zc (fun z => ?_) (fun z => ?_))
        · rw [z] at fin; exact fin
        · rw [z] at fin; exact fin
      · refine ⟨sw_lo (n := 8) (by decide) (by decide), sw_ne (by decide) (by decide) (by decide), sw_ne (by decide) (by decide) (by decide), sw_ne (by decide) (by decide) (by decide), sw_ne (by decide) (by decide) (by decide), fun _ => ?_, sw_ne (by decide) (by decide) (by decide), sw_ne (by decide) (by decide) (by decide), sw_ne (by decide) (by decide) (by decide), sw_ne (by decide) (by decide) (by decide)⟩
        have fin : P (nI (h (24 + a))) (pL (hit h)) (pL (lead h)) (pL (dft h)) (pL (dfr h)) cg_refusals := by
          rw [← hP]
          refine m_isClaimN hw H ha (wf2 n1_0 (m_reckons hw H (fun g1 g2 g3 g4 j1 j2 j3 j4 => ?_)))
          refine ⟨sw_lo (n := 9) (by decide) (by decide), sw_ne (by decide) (by decide) (by decide), sw_ne (by decide) (by decide) (by decide), sw_ne (by decide) (by decide) (by decide), sw_ne (by decide) (by decide) (by decide), fun _ => ?_, sw_ne (by decide) (by decide) (by decide), sw_ne (by decide) (by decide) (by decide), sw_ne (by decide) (by decide) (by decide), sw_ne (by decide) (by decide) (by decide), sw_ne (by decide) (by decide) (by decide)⟩
          rw [nI_add 24 a, nI_clamp (by omega), hw (24 + a) (by omega)]
          refine ⟨vp_in_nI (by omega) (by decide), ?_⟩
          apply hq
          exact hR
        exact s_get H.r_at ha8 fin
      · refine ⟨sw_lo (n := 8) (by decide) (by decide), sw_ne (by decide) (by decide) (by decide), sw_ne (by decide) (by decide) (by decide), sw_ne (by decide) (by decide) (by decide), sw_ne (by decide) (by decide) (by decide), sw_ne (by decide) (by decide) (by decide), fun _ => ?_, sw_ne (by decide) (by decide) (by decide), sw_ne (by decide) (by decide) (by decide), sw_ne (by decide) (by decide) (by decide)⟩
        have fin : P (nI (h (32 + a))) (pL (hit h)) (pL (lead h)) (pL (dft h)) (pL (dfr h)) cg_refusals := by
          rw [← hP]
          refine m_isClaimN hw H ha (wf2 n1_0 (m_reckons hw H (fun g1 g2 g3 g4 j1 j2 j3 j4 => ?_)))
          refine ⟨sw_lo (n := 9) (by decide) (by decide), sw_ne (by decide) (by decide) (by decide), sw_ne (by decide) (by decide) (by decide), sw_ne (by decide) (by decide) (by decide), sw_ne (by decide) (by decide) (by decide), sw_ne (by decide) (by decide) (by decide), fun _ => ?_, sw_ne (by decide) (by decide) (by decide), sw_ne (by decide) (by decide) (by decide), sw_ne (by decide) (by decide) (by decide), sw_ne (by decide) (by decide) (by decide)⟩
          rw [nI_add 32 a, nI_clamp (by omega), hw (32 + a) (by omega)]
          refine ⟨vp_in_nI (by omega) (by decide), ?_⟩
          apply hq
          exact hR
        exact s_get H.r_su ha8 fin
      · refine ⟨sw_lo (n := 8) (by decide) (by decide), sw_ne (by decide) (by decide) (by decide), sw_ne (by decide) (by decide) (by decide), sw_ne (by decide) (by decide) (by decide), sw_ne (by decide) (by decide) (by decide), sw_ne (by decide) (by decide) (by decide), sw_ne (by decide) (by decide) (by decide), fun _ => ?_, sw_ne (by decide) (by decide) (by decide), sw_ne (by decide) (by decide) (by decide)⟩
        have fin : P (nI (hit h a)) (pL (hit h)) (pL (lead h)) (pL (dft h)) (pL (dfr h)) cg_refusals := by
          rw [← hP]
          refine m_isClaimN hw H ha (wf2 n1_0 (m_reckons hw H (fun g1 g2 g3 g4 j1 j2 j3 j4 => ?_)))
          refine ⟨sw_lo (n := 9) (by decide) (by decide), sw_ne (by decide) (by decide) (by decide), sw_ne (by decide) (by decide) (by decide), sw_ne (by decide) (by decide) (by decide), sw_ne (by decide) (by decide) (by decide), sw_ne (by decide) (by decide) (by decide), sw_ne (by decide) (by decide) (by decide), fun _ => ?_, sw_ne (by decide) (by decide) (by decide), sw_ne (by decide) (by decide) (by decide), sw_ne (by decide) (by decide) (by decide)⟩
          refine ⟨vp_in_nI ha8 (by decide), ?_⟩
          rw [j1.rd ha8 (by decide)]
          apply hq
          exact hR
        exact s_get (hit_r8 h) ha8 fin
      · refine ⟨sw_lo (n := 8) (by decide) (by decide), sw_ne (by decide) (by decide) (by decide), sw_ne (by decide) (by decide) (by decide), sw_ne (by decide) (by decide) (by decide), sw_ne (by decide) (by decide) (by decide), sw_ne (by decide) (by decide) (by decide), sw_ne (by decide) (by decide) (by decide), sw_ne (by decide) (by decide) (by decide), fun _ => ?_, sw_ne (by decide) (by decide) (by decide)⟩
        have fin : P (nI (lead h a)) (pL (hit h)) (pL (lead h)) (pL (dft h)) (pL (dfr h)) cg_refusals := by
          rw [← hP]
          refine m_isClaimN hw H ha (wf2 n1_0 (m_reckons hw H (fun g1 g2 g3 g4 j1 j2 j3 j4 => ?_)))
          refine ⟨sw_lo (n := 9) (by decide) (by decide), sw_ne (by decide) (by decide) (by decide), sw_ne (by decide) (by decide) (by decide), sw_ne (by decide) (by decide) (by decide), sw_ne (by decide) (by decide) (by decide), sw_ne (by decide) (by decide) (by decide), sw_ne (by decide) (by decide) (by decide), sw_ne (by decide) (by decide) (by decide), fun _ => ?_, sw_ne (by decide) (by decide) (by decide), sw_ne (by decide) (by decide) (by decide)⟩
          refine ⟨vp_in_nI ha8 (by decide), ?_⟩
          rw [j2.rd ha8 (by decide)]
          apply hq
          exact hR
        exact s_get (lead_r8 H) ha8 fin
      · refine ⟨sw_lo (n := 8) (by decide) (by decide), sw_ne (by decide) (by decide) (by decide), sw_ne (by decide) (by decide) (by decide), sw_ne (by decide) (by decide) (by decide), sw_ne (by decide) (by decide) (by decide), sw_ne (by decide) (by decide) (by decide), sw_ne (by decide) (by decide) (by decide), sw_ne (by decide) (by decide) (by decide), sw_ne (by decide) (by decide) (by decide), fun _ => ?_⟩
        have fin : P (nI (dft h a)) (pL (hit h)) (pL (lead h)) (pL (dft h)) (pL (dfr h)) cg_refusals := by
          rw [← hP]
          refine m_isClaimN hw H ha (wf2 n1_0 (m_reckons hw H (fun g1 g2 g3 g4 j1 j2 j3 j4 => ?_)))
          refine ⟨sw_lo (n := 9) (by decide) (by decide), sw_ne (by decide) (by decide) (by decide), sw_ne (by decide) (by decide) (by decide), sw_ne (by decide) (by decide) (by decide), sw_ne (by decide) (by decide) (by decide), sw_ne (by decide) (by decide) (by decide), sw_ne (by decide) (by decide) (by decide), sw_ne (by decide) (by decide) (by decide), sw_ne (by decide) (by decide) (by decide), fun _ => ?_, sw_ne (by decide) (by decide) (by decide)⟩
          refine ⟨vp_in_nI ha8 (by decide), ?_⟩
          rw [j3.rd ha8 (by decide)]
          apply hq
          exact hR
        exact s_get (dft_r8 H) ha8 fin
      · refine ⟨fun _ => ?_, sw_ne (by decide) (by decide) (by decide), sw_ne (by decide) (by decide) (by decide), sw_ne (by decide) (by decide) (by decide), sw_ne (by decide) (by decide) (by decide), sw_ne (by decide) (by decide) (by decide), sw_ne (by decide) (by decide) (by decide), sw_ne (by decide) (by decide) (by decide), sw_ne (by decide) (by decide) (by decide), sw_ne (by decide) (by decide) (by decide)⟩
        have fin : P (nI (dfr h a)) (pL (hit h)) (pL (lead h)) (pL (dft h)) (pL (dfr h)) cg_refusals := by
          rw [← hP]
          refine m_isClaimN hw H ha (wf2 n1_0 (m_reckons hw H (fun g1 g2 g3 g4 j1 j2 j3 j4 => ?_)))
          refine ⟨sw_lo (n := 9) (by decide) (by decide), sw_ne (by decide) (by decide) (by decide), sw_ne (by decide) (by decide) (by decide), sw_ne (by decide) (by decide) (by decide), sw_ne (by decide) (by decide) (by decide), sw_ne (by decide) (by decide) (by decide), sw_ne (by decide) (by decide) (by decide), sw_ne (by decide) (by decide) (by decide), sw_ne (by decide) (by decide) (by decide), sw_ne (by decide) (by decide) (by decide), fun _ => ?_⟩
          refine ⟨vp_in_nI ha8 (by decide), ?_⟩
          rw [j4.rd ha8 (by decide)]
          apply hq
          exact hR
        exact s_get (dfr_r8 h) ha8 fin
    · refine wt z1 (s_refuse rx2 (by decide) (by decide) (bad ?_))
      rintro ⟨k, hk, rfl⟩
      exact nI_pos (by omega) z1
    · refine wf z1 (wf z4 (s_refuse rx2 (by decide) (by decide) (bad ?_)))
      rintro ⟨k, hk, rfl⟩
      exact nI_nlt hk (by decide) z3
  · refine wt2 rfl (s_refuse rx1 (by decide) (by decide) ?_)
    rw [← hP]
    refine m_isClaim hw H (fun c hc ec => absurd ⟨c, hc, ec⟩ q) (fun _ => wt2 rfl ?_)
    refine m_refused rx1 (by decide) ?_
    apply hq
    exact hR.up 1
