/-! the simulations, eighth part -/
theorem sim_changes {sz : Int32} {hr : Int32} {md : Int32} {ca : Int64} {fi : Int64} {vo : Int64} {at_ : Int64} {su : Int64} {gw : Nat → Int32} {cg_refusals : Nat → Int32} {mg_refusals : Nat → Int32} {cs_trials_draft_size : Int32} {cs_trials_draft_heard : Int32} {cs_trials_draft_mode : Int32} {cs_trials_draft_cast : Int64} {cs_trials_draft_figures : Int64} {cs_trials_draft_voices : Int64} {cs_trials_draft_attacks : Int64} {cs_trials_draft_supports : Int64} {cs_trials_strife_hits : Int64} {cs_trials_strife_leads : Int64} {cs_trials_strife_defeats : Int64} {cs_trials_strife_defeaters : Int64} {cs_trials_settled_in : Int32} {cs_trials_settled_out : Int32} {cs_trials_settled_length : Int32} {cs_trials_settled_order : Int64} {mg_hit : Nat → Int32} {mg_lead : Nat → Int32} {mg_defeat : Nat → Int32} {mg_defeater : Nat → Int32} {ms_ins : Int32} {ms_outs : Int32} {mg_order : Nat → Int32} {ms_ordered : Int32} {x1 : Int32} {x2 : Int32} (hH : HR sz hr md ca fi vo at_ su gw) (hR : rfE cg_refusals mg_refusals) {Q : Int32 → Int32 → Int32 → Int32 → Int32 → Int64 → Int64 → Int64 → Int64 → Int64 → Int64 → Int64 → Int64 → Int64 → Int32 → Int32 → Int32 → Int64 → (Nat → Int32) → (Nat → Int32) → (Nat → Int32) → (Nat → Int32) → (Nat → Int32) → (Nat → Int32) → (Nat → Int32) → Int32 → Int32 → (Nat → Int32) → Int32 → Prop} (hq : ∀ r cs_trials_draft_size' cs_trials_draft_heard' cs_trials_draft_mode' cs_trials_draft_cast' cs_trials_draft_figures' cs_trials_draft_voices' cs_trials_draft_attacks' cs_trials_draft_supports' cs_trials_strife_hits' cs_trials_strife_leads' cs_trials_strife_defeats' cs_trials_strife_defeaters' cs_trials_settled_in' cs_trials_settled_out' cs_trials_settled_length' cs_trials_settled_order' cg_refusals' gw' mg_refusals' mg_hit' mg_lead' mg_defeat' mg_defeater' ms_ins' ms_outs' mg_order' ms_ordered', HR sz hr md ca fi vo at_ su gw' → rfE cg_refusals' mg_refusals' → Q r r cs_trials_draft_size' cs_trials_draft_heard' cs_trials_draft_mode' cs_trials_draft_cast' cs_trials_draft_figures' cs_trials_draft_voices' cs_trials_draft_attacks' cs_trials_draft_supports' cs_trials_strife_hits' cs_trials_strife_leads' cs_trials_strife_defeats' cs_trials_strife_defeaters' cs_trials_settled_in' cs_trials_settled_out' cs_trials_settled_length' cs_trials_settled_order' cg_refusals' gw' mg_refusals' mg_hit' mg_lead' mg_defeat' mg_defeater' ms_ins' ms_outs' mg_order' ms_ordered') : wp_X10_changes (fun r cs_trials_draft_size' cs_trials_draft_heard' cs_trials_draft_mode' cs_trials_draft_cast' cs_trials_draft_figures' cs_trials_draft_voices' cs_trials_draft_attacks' cs_trials_draft_supports' cs_trials_strife_hits' cs_trials_strife_leads' cs_trials_strife_defeats' cs_trials_strife_defeaters' cs_trials_settled_in' cs_trials_settled_out' cs_trials_settled_length' cs_trials_settled_order' cg_refusals' => wp_X11_changes (fun r2 gw' mg_refusals' mg_hit' mg_lead' mg_defeat' mg_defeater' ms_ins' ms_outs' mg_order' ms_ordered' => Q r r2 cs_trials_draft_size' cs_trials_draft_heard' cs_trials_draft_mode' cs_trials_draft_cast' cs_trials_draft_figures' cs_trials_draft_voices' cs_trials_draft_attacks' cs_trials_draft_supports' cs_trials_strife_hits' cs_trials_strife_leads' cs_trials_strife_defeats' cs_trials_strife_defeaters' cs_trials_settled_in' cs_trials_settled_out' cs_trials_settled_length' cs_trials_settled_order' cg_refusals' gw' mg_refusals' mg_hit' mg_lead' mg_defeat' mg_defeater' ms_ins' ms_outs' mg_order' ms_ordered') gw mg_refusals mg_hit mg_lead mg_defeat mg_defeater ms_ins ms_outs mg_order ms_ordered x1 x2) sz hr md ca fi vo at_ su cs_trials_draft_size cs_trials_draft_heard cs_trials_draft_mode cs_trials_draft_cast cs_trials_draft_figures cs_trials_draft_voices cs_trials_draft_attacks cs_trials_draft_supports cs_trials_strife_hits cs_trials_strife_leads cs_trials_strife_defeats cs_trials_strife_defeaters cs_trials_settled_in cs_trials_settled_out cs_trials_settled_length cs_trials_settled_order cg_refusals x1 x2 := by
  generalize hP : (fun r cs_trials_draft_size' cs_trials_draft_heard' cs_trials_draft_mode' cs_trials_draft_cast' cs_trials_draft_figures' cs_trials_draft_voices' cs_trials_draft_attacks' cs_trials_draft_supports' cs_trials_strife_hits' cs_trials_strife_leads' cs_trials_strife_defeats' cs_trials_strife_defeaters' cs_trials_settled_in' cs_trials_settled_out' cs_trials_settled_length' cs_trials_settled_order' cg_refusals' => wp_X11_changes (fun r2 gw' mg_refusals' mg_hit' mg_lead' mg_defeat' mg_defeater' ms_ins' ms_outs' mg_order' ms_ordered' => Q r r2 cs_trials_draft_size' cs_trials_draft_heard' cs_trials_draft_mode' cs_trials_draft_cast' cs_trials_draft_figures' cs_trials_draft_voices' cs_trials_draft_attacks' cs_trials_draft_supports' cs_trials_strife_hits' cs_trials_strife_leads' cs_trials_strife_defeats' cs_trials_strife_defeaters' cs_trials_settled_in' cs_trials_settled_out' cs_trials_settled_length' cs_trials_settled_order' cg_refusals' gw' mg_refusals' mg_hit' mg_lead' mg_defeat' mg_defeater' ms_ins' ms_outs' mg_order' ms_ordered') gw mg_refusals mg_hit mg_lead mg_defeat mg_defeater ms_ins ms_outs mg_order ms_ordered x1 x2) = P
  obtain ⟨h, H, e, hw⟩ := hH
  have h8 := H.1
  have same : HR sz hr md ca fi vo at_ su gw := ⟨h, H, e, hw⟩
  unfold wp_X10_changes
  rw [e.1, e.2.1]
  refine s_knows (by omega) (fun a ha ea => ?_) (fun q => ?_)
  · subst ea
    refine wf2 n1_0 (s_hears H ha (zc2 (fun z => ?_) (fun z => ?_)))
    · refine s_refuse rx3 (by decide) (by decide) ?_
      rw [← hP]
      unfold wp_X11_changes
      refine m_isClaimN hw H ha (wf2 n1_0 (m_isHeard hw H.heard (by omega) ?_))
      rw [z]
      refine wt2 rfl (m_refused rx3 (by decide) ?_)
      apply hq
      · exact same
      · exact hR.up 3
    · refine s_is12 (fun w ew => ?_) (fun q => ?_)
      · subst ew
        refine wf2 n1_0 ?_
        rw [← e.1, ← e.2.1]
        have fin : ∀ r, r = (if w then enc9 (chG h a (h 42)) else nI (chT h a (h 42))) → ∀ d1 d2 d3 d4 d5 d6 d7 d8 s1 s2 s3 s4 t1 t2 t3 t4, P r d1 d2 d3 d4 d5 d6 d7 d8 s1 s2 s3 s4 t1 t2 t3 t4 cg_refusals := by
          rintro r rfl d1 d2 d3 d4 d5 d6 d7 d8 s1 s2 s3 s4 t1 t2 t3 t4
          rw [← hP]
          refine m_changes hw H ha z (fun gw q _ _ _ _ _ _ _ _ => ?_)
          apply hq
          · exact ⟨h, H, e, q⟩
          · exact hR
        refine ⟨fun k => ?_, fun k => ?_⟩
        · have kw := (zI_n1 w).mp k
          exact s_changesFor H ha (w := false) e (fun d1 d2 d3 d4 d5 d6 d7 d8 s1 s2 s3 s4 t1 t2 t3 t4 => fin _ (by rw [kw]) _ _ _ _ _ _ _ _ _ _ _ _ _ _ _ _)
        · have kw := (zI_1 w).mp k
          exact s_changesFor H ha (w := true) e (fun d1 d2 d3 d4 d5 d6 d7 d8 s1 s2 s3 s4 t1 t2 t3 t4 => fin _ (by rw [kw]) _ _ _ _ _ _ _ _ _ _ _ _ _ _ _ _)
      · refine wt2 rfl (s_refuse rx2 (by decide) (by decide) ?_)
        rw [← hP]
        unfold wp_X11_changes
        refine m_isClaimN hw H ha (wf2 n1_0 (m_isHeard hw H.heard (by omega) ?_))
        rw [z]
        refine wf2 n1_0 (m_in12 (fun w ew => absurd ⟨w, ew⟩ q) (fun _ => wt2 rfl (m_refused rx2 (by decide) ?_)))
        apply hq
        · exact same
        · exact hR.up 2
  · refine wt2 rfl (s_refuse rx1 (by decide) (by decide) ?_)
    rw [← hP]
    unfold wp_X11_changes
    refine m_isClaim hw H (fun c hc ec => absurd ⟨c, hc, ec⟩ q) (fun _ => wt2 rfl ?_)
    refine m_refused rx1 (by decide) ?_
    apply hq
    · exact same
    · exact hR.up 1
