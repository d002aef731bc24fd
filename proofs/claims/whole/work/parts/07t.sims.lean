/-! the simulations, sixteenth part -/
theorem sim_game {sz : Int32} {hr : Int32} {md : Int32} {ca : Int64} {fi : Int64} {vo : Int64} {at_ : Int64} {su : Int64} {gw : Nat → Int32} {cg_refusals : Nat → Int32} {mg_refusals : Nat → Int32} {cs_strife_hits : Int64} {cs_strife_leads : Int64} {cs_strife_defeats : Int64} {cs_strife_defeaters : Int64} {cg_dispute_depths : Nat → Int32} {cg_dispute_ways : Nat → Int32} {cs_dispute_defeaters : Int64} {mg_hit : Nat → Int32} {mg_lead : Nat → Int32} {mg_defeat : Nat → Int32} {mg_defeater : Nat → Int32} {mg_depths : Nat → Int32} {mg_ways : Nat → Int64} {x1 : Int32} {x2 : Int32} (hH : HR sz hr md ca fi vo at_ su gw) (hR : rfE cg_refusals mg_refusals) {Q : Int32 → Int32 → Int64 → Int64 → Int64 → Int64 → (Nat → Int32) → (Nat → Int32) → Int64 → (Nat → Int32) → (Nat → Int32) → (Nat → Int32) → (Nat → Int32) → (Nat → Int32) → (Nat → Int32) → (Nat → Int32) → (Nat → Int64) → Prop} (hq : ∀ r cs_strife_hits' cs_strife_leads' cs_strife_defeats' cs_strife_defeaters' cg_dispute_depths' cg_dispute_ways' cs_dispute_defeaters' cg_refusals' mg_refusals' mg_hit' mg_lead' mg_defeat' mg_defeater' mg_depths' mg_ways', rfE cg_refusals' mg_refusals' → Q r r cs_strife_hits' cs_strife_leads' cs_strife_defeats' cs_strife_defeaters' cg_dispute_depths' cg_dispute_ways' cs_dispute_defeaters' cg_refusals' mg_refusals' mg_hit' mg_lead' mg_defeat' mg_defeater' mg_depths' mg_ways') : wp_X10_game (fun r cs_strife_hits' cs_strife_leads' cs_strife_defeats' cs_strife_defeaters' cg_dispute_depths' cg_dispute_ways' cs_dispute_defeaters' cg_refusals' => wp_X11_game (fun r2 mg_refusals' mg_hit' mg_lead' mg_defeat' mg_defeater' mg_depths' mg_ways' => Q r r2 cs_strife_hits' cs_strife_leads' cs_strife_defeats' cs_strife_defeaters' cg_dispute_depths' cg_dispute_ways' cs_dispute_defeaters' cg_refusals' mg_refusals' mg_hit' mg_lead' mg_defeat' mg_defeater' mg_depths' mg_ways') gw mg_refusals mg_hit mg_lead mg_defeat mg_defeater mg_depths mg_ways x1 x2) sz hr md ca fi at_ su cs_strife_hits cs_strife_leads cs_strife_defeats cs_strife_defeaters cg_dispute_depths cg_dispute_ways cs_dispute_defeaters cg_refusals x1 x2 := by
  generalize hP : (fun r cs_strife_hits' cs_strife_leads' cs_strife_defeats' cs_strife_defeaters' cg_dispute_depths' cg_dispute_ways' cs_dispute_defeaters' cg_refusals' => wp_X11_game (fun r2 mg_refusals' mg_hit' mg_lead' mg_defeat' mg_defeater' mg_depths' mg_ways' => Q r r2 cs_strife_hits' cs_strife_leads' cs_strife_defeats' cs_strife_defeaters' cg_dispute_depths' cg_dispute_ways' cs_dispute_defeaters' cg_refusals' mg_refusals' mg_hit' mg_lead' mg_defeat' mg_defeater' mg_depths' mg_ways') gw mg_refusals mg_hit mg_lead mg_defeat mg_defeater mg_depths mg_ways x1 x2) = P
  obtain ⟨h, H, e, hw⟩ := hH
  have h8 := H.1
  obtain ⟨rfl, rfl, rfl, rfl, rfl, rfl, rfl, rfl⟩ := e
  unfold wp_X10_game
  unfold wp_X11_game at hP
  refine s_knows (by omega) (fun a ha ea => ?_) (fun q => ?_)
  · subst ea
    have ha8 : a < 8 := by omega
    refine wf2 n1_0 (s_hears H ha (zc2 (fun z => ?_) (fun z => ?_)))
    · refine s_refuse rx3 (by decide) (by decide) ?_
      rw [← hP]
      refine m_isClaimN hw H ha (wf2 n1_0 (m_isHeard hw H.heard (by omega) ?_))
      rw [z]
      refine wt2 rfl (m_refused rx3 (by decide) ?_)
      apply hq
      exact hR.up 3
    · refine s_is12 (fun w ew => ?_) (fun q => ?_)
      · subst ew
        refine wf2 n1_0 (s_reckon H (s_play H ha8 (fun gd gw' t1 t2 => ?_)))
        have p2 : (2 : Nat) ^ a < 256 := pw_lt8 ha8
        have pc1 : 8 - pc (2 ^ a) 8 < 10 := by omega
        cases w
        · refine wf2 (show ¬ zI false = nI 1 by decide +kernel) ?_
          have fin : ∀ v, v = encD (gD (dfr h) (2 ^ a) a) → P v (pL (hit h)) (pL (lead h)) (pL (dft h)) (pL (dfr h)) gd gw' (pL (dfr h)) cg_refusals := by
            rintro v rfl
            rw [← hP]
            refine m_isClaimN hw H ha (wf2 n1_0 (m_isHeard hw H.heard (by omega) ?_))
            rw [z]
            refine wf2 n1_0 (m_in12 (fun _ _ => wf2 n1_0 ?_) (fun q => absurd ⟨false, rfl⟩ q))
            refine m_plays hw H (fun g1 g2 g3 g4 g5 g6 j1 j2 j3 j4 j5 j6 => wt2 rfl ?_)
            rw [shl_1 (by omega)]
            refine m_depthAt_t hw H j4 _ _ _ _ p2 ha8 pc1 j5 (fun g' k => ?_)
            apply hq
            exact hR
          refine s_isWon H ha8 z t1 (zc (fun y => fin _ ?_) (fun y => s_depth H ha8 z t1 (fin _ ?_)))
          · have y1 := of_decide_eq_false y
            rw [show gD (dfr h) (2 ^ a) a = 0 by omega]; rfl
          · rw [encD_pos (of_decide_eq_true y)]
        · refine wt2 (show zI true = nI 1 by decide +kernel) ?_
          refine s_trees H ha8 z t2 ?_
          rw [← hP]
          refine m_isClaimN hw H ha (wf2 n1_0 (m_isHeard hw H.heard (by omega) ?_))
          rw [z]
          refine wf2 n1_0 (m_in12 (fun _ _ => wf2 n1_0 ?_) (fun q => absurd ⟨true, rfl⟩ q))
          refine m_plays hw H (fun g1 g2 g3 g4 g5 g6 j1 j2 j3 j4 j5 j6 => wf2 (show ¬ zI true = 0 by decide +kernel) ?_)
          rw [shl_1 (by omega)]
          refine m_waysAt_t hw H j4 _ _ _ _ p2 ha8 pc1 j6 (fun g' k => ?_)
          rw [lN_i]
          apply hq
          exact hR
      · refine wt2 rfl (s_refuse rx2 (by decide) (by decide) ?_)
        rw [← hP]
        refine m_isClaimN hw H ha (wf2 n1_0 (m_isHeard hw H.heard (by omega) ?_))
        rw [z]
        refine wf2 n1_0 (m_in12 (fun w ew => absurd ⟨w, ew⟩ q) (fun _ => wt2 rfl (m_refused rx2 (by decide) ?_)))
        apply hq
        exact hR.up 2
  · refine wt2 rfl (s_refuse rx1 (by decide) (by decide) ?_)
    rw [← hP]
    refine m_isClaim hw H (fun c hc ec => absurd ⟨c, hc, ec⟩ q) (fun _ => wt2 rfl ?_)
    refine m_refused rx1 (by decide) ?_
    apply hq
    exact hR.up 1
