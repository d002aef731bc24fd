/-! the simulations, tenth part -/
theorem sim_spare {sz : Int32} {hr : Int32} {md : Int32} {ca : Int64} {fi : Int64} {vo : Int64} {at_ : Int64} {su : Int64} {gw : Nat → Int32} {cg_refusals : Nat → Int32} {mg_refusals : Nat → Int32} {cs_trials_draft_size : Int32} {cs_trials_draft_heard : Int32} {cs_trials_draft_mode : Int32} {cs_trials_draft_cast : Int64} {cs_trials_draft_figures : Int64} {cs_trials_draft_voices : Int64} {cs_trials_draft_attacks : Int64} {cs_trials_draft_supports : Int64} {cs_trials_strife_hits : Int64} {cs_trials_strife_leads : Int64} {cs_trials_strife_defeats : Int64} {cs_trials_strife_defeaters : Int64} {mg_hit : Nat → Int32} {mg_lead : Nat → Int32} {mg_defeat : Nat → Int32} {mg_defeater : Nat → Int32} {x1 : Int32} (hH : HR sz hr md ca fi vo at_ su gw) (hR : rfE cg_refusals mg_refusals) {Q : Int32 → Int32 → Int32 → Int32 → Int32 → Int64 → Int64 → Int64 → Int64 → Int64 → Int64 → Int64 → Int64 → Int64 → (Nat → Int32) → (Nat → Int32) → (Nat → Int32) → (Nat → Int32) → (Nat → Int32) → (Nat → Int32) → (Nat → Int32) → Prop} (hq : ∀ r cs_trials_draft_size' cs_trials_draft_heard' cs_trials_draft_mode' cs_trials_draft_cast' cs_trials_draft_figures' cs_trials_draft_voices' cs_trials_draft_attacks' cs_trials_draft_supports' cs_trials_strife_hits' cs_trials_strife_leads' cs_trials_strife_defeats' cs_trials_strife_defeaters' cg_refusals' gw' mg_refusals' mg_hit' mg_lead' mg_defeat' mg_defeater', HR sz hr md ca fi vo at_ su gw' → rfE cg_refusals' mg_refusals' → Q r r cs_trials_draft_size' cs_trials_draft_heard' cs_trials_draft_mode' cs_trials_draft_cast' cs_trials_draft_figures' cs_trials_draft_voices' cs_trials_draft_attacks' cs_trials_draft_supports' cs_trials_strife_hits' cs_trials_strife_leads' cs_trials_strife_defeats' cs_trials_strife_defeaters' cg_refusals' gw' mg_refusals' mg_hit' mg_lead' mg_defeat' mg_defeater') : wp_X10_spare (fun r cs_trials_draft_size' cs_trials_draft_heard' cs_trials_draft_mode' cs_trials_draft_cast' cs_trials_draft_figures' cs_trials_draft_voices' cs_trials_draft_attacks' cs_trials_draft_supports' cs_trials_strife_hits' cs_trials_strife_leads' cs_trials_strife_defeats' cs_trials_strife_defeaters' cg_refusals' => wp_X11_spare (fun r2 gw' mg_refusals' mg_hit' mg_lead' mg_defeat' mg_defeater' => Q r r2 cs_trials_draft_size' cs_trials_draft_heard' cs_trials_draft_mode' cs_trials_draft_cast' cs_trials_draft_figures' cs_trials_draft_voices' cs_trials_draft_attacks' cs_trials_draft_supports' cs_trials_strife_hits' cs_trials_strife_leads' cs_trials_strife_defeats' cs_trials_strife_defeaters' cg_refusals' gw' mg_refusals' mg_hit' mg_lead' mg_defeat' mg_defeater') gw mg_refusals mg_hit mg_lead mg_defeat mg_defeater x1) sz hr md ca fi vo at_ su cs_trials_draft_size cs_trials_draft_heard cs_trials_draft_mode cs_trials_draft_cast cs_trials_draft_figures cs_trials_draft_voices cs_trials_draft_attacks cs_trials_draft_supports cs_trials_strife_hits cs_trials_strife_leads cs_trials_strife_defeats cs_trials_strife_defeaters cg_refusals x1 := by
  generalize hP : (fun r cs_trials_draft_size' cs_trials_draft_heard' cs_trials_draft_mode' cs_trials_draft_cast' cs_trials_draft_figures' cs_trials_draft_voices' cs_trials_draft_attacks' cs_trials_draft_supports' cs_trials_strife_hits' cs_trials_strife_leads' cs_trials_strife_defeats' cs_trials_strife_defeaters' cg_refusals' => wp_X11_spare (fun r2 gw' mg_refusals' mg_hit' mg_lead' mg_defeat' mg_defeater' => Q r r2 cs_trials_draft_size' cs_trials_draft_heard' cs_trials_draft_mode' cs_trials_draft_cast' cs_trials_draft_figures' cs_trials_draft_voices' cs_trials_draft_attacks' cs_trials_draft_supports' cs_trials_strife_hits' cs_trials_strife_leads' cs_trials_strife_defeats' cs_trials_strife_defeaters' cg_refusals' gw' mg_refusals' mg_hit' mg_lead' mg_defeat' mg_defeater') gw mg_refusals mg_hit mg_lead mg_defeat mg_defeater x1) = P
  obtain ⟨h, H, e, hw⟩ := hH
  have same : HR sz hr md ca fi vo at_ su gw := ⟨h, H, e, hw⟩
  unfold wp_X10_spare
  refine s_is12 (fun w ew => ?_) (fun q => ?_)
  · subst ew
    refine wf2 n1_0 (s_spared H e (fun r lr d1 d2 d3 d4 d5 d6 d7 d8 s1 s2 s3 s4 => ?_))
    have fin : ∀ v, v = nI (if w then r else pc r 8) → P v d1 d2 d3 d4 d5 d6 d7 d8 s1 s2 s3 s4 cg_refusals := by
      rintro v rfl
      rw [← hP]
      refine m_spare hw H (fun r2 lr2 gw q _ _ _ _ => ?_)
      rw [lstP_un lr2 lr]
      apply hq
      · exact ⟨h, H, e, q⟩
      · exact hR
    refine zc2 (fun z => s_bitCount lr.1 (fin _ ?_)) (fun z => fin _ ?_)
    · rw [z]; rfl
    · rw [z]; rfl
  · refine wt2 rfl (s_refuse rx2 (by decide) (by decide) ?_)
    rw [← hP]
    unfold wp_X11_spare
    refine m_in12 (fun w ew => absurd ⟨w, ew⟩ q) (fun _ => wt2 rfl (m_refused rx2 (by decide) ?_))
    apply hq
    · exact same
    · exact hR.up 2
