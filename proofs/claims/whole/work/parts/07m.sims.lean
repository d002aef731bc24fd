/-! the simulations, ninth part -/
theorem sim_sets {sz : Int32} {hr : Int32} {md : Int32} {ca : Int64} {fi : Int64} {vo : Int64} {at_ : Int64} {su : Int64} {gw : Nat → Int32} {cg_refusals : Nat → Int32} {mg_refusals : Nat → Int32} {cs_strife_hits : Int64} {cs_strife_leads : Int64} {cs_strife_defeats : Int64} {cs_strife_defeaters : Int64} {cg_selection_chosen : Nat → Int32} {cg_selection_marked : Nat → Int32} {cg_selection_surpassed : Nat → Int32} {cs_selection_heard : Int32} {cs_selection_defeats : Int64} {cs_selection_defeaters : Int64} {mg_hit : Nat → Int32} {mg_lead : Nat → Int32} {mg_defeat : Nat → Int32} {mg_defeater : Nat → Int32} {mg_is : Nat → Int32} {mg_was : Nat → Int32} {x1 : Int32} {x2 : Int32} (hH : HR sz hr md ca fi vo at_ su gw) (hR : rfE cg_refusals mg_refusals) {Q : Int32 → Int32 → Int64 → Int64 → Int64 → Int64 → (Nat → Int32) → (Nat → Int32) → (Nat → Int32) → Int32 → Int64 → Int64 → (Nat → Int32) → (Nat → Int32) → (Nat → Int32) → (Nat → Int32) → (Nat → Int32) → (Nat → Int32) → (Nat → Int32) → (Nat → Int32) → Prop} (hq : ∀ r cs_strife_hits' cs_strife_leads' cs_strife_defeats' cs_strife_defeaters' cg_selection_chosen' cg_selection_marked' cg_selection_surpassed' cs_selection_heard' cs_selection_defeats' cs_selection_defeaters' cg_refusals' mg_refusals' mg_hit' mg_lead' mg_defeat' mg_defeater' mg_is' mg_was', rfE cg_refusals' mg_refusals' → Q r r cs_strife_hits' cs_strife_leads' cs_strife_defeats' cs_strife_defeaters' cg_selection_chosen' cg_selection_marked' cg_selection_surpassed' cs_selection_heard' cs_selection_defeats' cs_selection_defeaters' cg_refusals' mg_refusals' mg_hit' mg_lead' mg_defeat' mg_defeater' mg_is' mg_was') : wp_X10_sets (fun r cs_strife_hits' cs_strife_leads' cs_strife_defeats' cs_strife_defeaters' cg_selection_chosen' cg_selection_marked' cg_selection_surpassed' cs_selection_heard' cs_selection_defeats' cs_selection_defeaters' cg_refusals' => wp_X11_sets (fun r2 mg_refusals' mg_hit' mg_lead' mg_defeat' mg_defeater' mg_is' mg_was' => Q r r2 cs_strife_hits' cs_strife_leads' cs_strife_defeats' cs_strife_defeaters' cg_selection_chosen' cg_selection_marked' cg_selection_surpassed' cs_selection_heard' cs_selection_defeats' cs_selection_defeaters' cg_refusals' mg_refusals' mg_hit' mg_lead' mg_defeat' mg_defeater' mg_is' mg_was') gw mg_refusals mg_hit mg_lead mg_defeat mg_defeater mg_is mg_was x1 x2) sz hr md ca fi at_ su cs_strife_hits cs_strife_leads cs_strife_defeats cs_strife_defeaters cg_selection_chosen cg_selection_marked cg_selection_surpassed cs_selection_heard cs_selection_defeats cs_selection_defeaters cg_refusals x1 x2 := by
  generalize hP : (fun r cs_strife_hits' cs_strife_leads' cs_strife_defeats' cs_strife_defeaters' cg_selection_chosen' cg_selection_marked' cg_selection_surpassed' cs_selection_heard' cs_selection_defeats' cs_selection_defeaters' cg_refusals' => wp_X11_sets (fun r2 mg_refusals' mg_hit' mg_lead' mg_defeat' mg_defeater' mg_is' mg_was' => Q r r2 cs_strife_hits' cs_strife_leads' cs_strife_defeats' cs_strife_defeaters' cg_selection_chosen' cg_selection_marked' cg_selection_surpassed' cs_selection_heard' cs_selection_defeats' cs_selection_defeaters' cg_refusals' mg_refusals' mg_hit' mg_lead' mg_defeat' mg_defeater' mg_is' mg_was') gw mg_refusals mg_hit mg_lead mg_defeat mg_defeater mg_is mg_was x1 x2) = P
  obtain ⟨h, H, e, hw⟩ := hH
  have h8 := H.1
  obtain ⟨rfl, rfl, rfl, rfl, rfl, rfl, rfl, rfl⟩ := e
  unfold wp_X10_sets
  unfold wp_X11_sets at hP
  rw [lx_5] at hP
  refine s_isSortX (fun s hs es => ?_) (fun q => ?_)
  · subst es
    refine wf2 n1_0 ?_
    rcases m1_cases x2 with ⟨z1, z2, z3⟩ | rfl | ⟨z1, z2, z3, z4, z5⟩
    · refine wf z2 (s_refuse rx4 (by decide) (by decide) ?_)
      rw [← hP]
      refine m_inY (by decide) hs (wf2 n1_0 (wf z2 (m_refused rx4 (by decide) ?_)))
      apply hq
      exact hR.up 4
    · refine wt (by decide +kernel) (s_reckon H (s_select H hs (fun g1 g2 g3 i1 => wt2 rfl (s_size i1 ?_))))
      rw [← hP]
      refine m_inY (by decide) hs (wf2 n1_0 (wt (by decide +kernel) (m_reckons hw H (fun _ _ gd gr _ _ j3 j4 => m_finds hw H j3 j4 hs (fun gi gs k1 => wf (show ¬ (0 : Int32) ≤ -1 by decide +kernel) (m_found k1 ?_))))))
      apply hq
      exact hR
    · refine wt z1 (s_reckon H (s_select H hs (fun g1 g2 g3 i1 => wf2 z3 (s_at i1 ?_))))
      rw [← hP]
      refine m_inY (by decide) hs (wf2 n1_0 (wt z1 (m_reckons hw H (fun _ _ gd gr _ _ j3 j4 => m_finds hw H j3 j4 hs (fun gi gs k1 => wt z4 (m_foundAt k1 ?_))))))
      apply hq
      exact hR
  · refine wt2 rfl (s_refuse rx2 (by decide) (by decide) ?_)
    rw [← hP]
    refine m_inX (by decide) q (wt2 rfl (m_refused rx2 (by decide) ?_))
    apply hq
    exact hR.up 2
