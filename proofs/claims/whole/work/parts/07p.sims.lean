/-! the simulations, twelfth part -/
theorem sim_whatIs {sz : Int32} {hr : Int32} {md : Int32} {ca : Int64} {fi : Int64} {vo : Int64} {at_ : Int64} {su : Int64} {gw : Nat → Int32} {cg_numbers_numbers : Nat → Int32} {cs_numbers_length : Int32} {mg_row : Nat → Int32} {ms_rows : Int32} {cg_refusals : Nat → Int32} {mg_refusals : Nat → Int32} {cs_trials_draft_size : Int32} {cs_trials_draft_heard : Int32} {cs_trials_draft_mode : Int32} {cs_trials_draft_cast : Int64} {cs_trials_draft_figures : Int64} {cs_trials_draft_voices : Int64} {cs_trials_draft_attacks : Int64} {cs_trials_draft_supports : Int64} {cs_trials_strife_hits : Int64} {cs_trials_strife_leads : Int64} {cs_trials_strife_defeats : Int64} {cs_trials_strife_defeaters : Int64} {cs_trials_settled_in : Int32} {cs_trials_settled_out : Int32} {cs_trials_settled_length : Int32} {cs_trials_settled_order : Int64} {mg_hit : Nat → Int32} {mg_lead : Nat → Int32} {mg_defeat : Nat → Int32} {mg_defeater : Nat → Int32} {ms_ins : Int32} {ms_outs : Int32} {mg_order : Nat → Int32} {ms_ordered : Int32} {x1 : Int32} {x2 : Int32} (hH : HR sz hr md ca fi vo at_ su gw) (hW : LTR 12 10 cg_numbers_numbers cs_numbers_length mg_row ms_rows) (hR : rfE cg_refusals mg_refusals) {Q : Int32 → Int32 → Int32 → Int32 → Int32 → Int64 → Int64 → Int64 → Int64 → Int64 → Int64 → Int64 → Int64 → Int64 → Int32 → Int32 → Int32 → Int64 → (Nat → Int32) → (Nat → Int32) → (Nat → Int32) → (Nat → Int32) → (Nat → Int32) → (Nat → Int32) → (Nat → Int32) → Int32 → Int32 → (Nat → Int32) → Int32 → Prop} (hq : ∀ r cs_trials_draft_size' cs_trials_draft_heard' cs_trials_draft_mode' cs_trials_draft_cast' cs_trials_draft_figures' cs_trials_draft_voices' cs_trials_draft_attacks' cs_trials_draft_supports' cs_trials_strife_hits' cs_trials_strife_leads' cs_trials_strife_defeats' cs_trials_strife_defeaters' cs_trials_settled_in' cs_trials_settled_out' cs_trials_settled_length' cs_trials_settled_order' cg_refusals' gw' mg_refusals' mg_hit' mg_lead' mg_defeat' mg_defeater' ms_ins' ms_outs' mg_order' ms_ordered', HR sz hr md ca fi vo at_ su gw' → rfE cg_refusals' mg_refusals' → Q r r cs_trials_draft_size' cs_trials_draft_heard' cs_trials_draft_mode' cs_trials_draft_cast' cs_trials_draft_figures' cs_trials_draft_voices' cs_trials_draft_attacks' cs_trials_draft_supports' cs_trials_strife_hits' cs_trials_strife_leads' cs_trials_strife_defeats' cs_trials_strife_defeaters' cs_trials_settled_in' cs_trials_settled_out' cs_trials_settled_length' cs_trials_settled_order' cg_refusals' gw' mg_refusals' mg_hit' mg_lead' mg_defeat' mg_defeater' ms_ins' ms_outs' mg_order' ms_ordered') : wp_X10_whatIs (fun r cs_trials_draft_size' cs_trials_draft_heard' cs_trials_draft_mode' cs_trials_draft_cast' cs_trials_draft_figures' cs_trials_draft_voices' cs_trials_draft_attacks' cs_trials_draft_supports' cs_trials_strife_hits' cs_trials_strife_leads' cs_trials_strife_defeats' cs_trials_strife_defeaters' cs_trials_settled_in' cs_trials_settled_out' cs_trials_settled_length' cs_trials_settled_order' cg_refusals' => wp_X11_whatIs (fun r2 gw' mg_refusals' mg_hit' mg_lead' mg_defeat' mg_defeater' ms_ins' ms_outs' mg_order' ms_ordered' => Q r r2 cs_trials_draft_size' cs_trials_draft_heard' cs_trials_draft_mode' cs_trials_draft_cast' cs_trials_draft_figures' cs_trials_draft_voices' cs_trials_draft_attacks' cs_trials_draft_supports' cs_trials_strife_hits' cs_trials_strife_leads' cs_trials_strife_defeats' cs_trials_strife_defeaters' cs_trials_settled_in' cs_trials_settled_out' cs_trials_settled_length' cs_trials_settled_order' cg_refusals' gw' mg_refusals' mg_hit' mg_lead' mg_defeat' mg_defeater' ms_ins' ms_outs' mg_order' ms_ordered') gw mg_refusals mg_row ms_rows mg_hit mg_lead mg_defeat mg_defeater ms_ins ms_outs mg_order ms_ordered x1 x2) sz hr md ca fi vo at_ su cg_numbers_numbers cs_numbers_length cs_trials_draft_size cs_trials_draft_heard cs_trials_draft_mode cs_trials_draft_cast cs_trials_draft_figures cs_trials_draft_voices cs_trials_draft_attacks cs_trials_draft_supports cs_trials_strife_hits cs_trials_strife_leads cs_trials_strife_defeats cs_trials_strife_defeaters cs_trials_settled_in cs_trials_settled_out cs_trials_settled_length cs_trials_settled_order cg_refusals x1 x2 := by
  generalize hP : (fun r cs_trials_draft_size' cs_trials_draft_heard' cs_trials_draft_mode' cs_trials_draft_cast' cs_trials_draft_figures' cs_trials_draft_voices' cs_trials_draft_attacks' cs_trials_draft_supports' cs_trials_strife_hits' cs_trials_strife_leads' cs_trials_strife_defeats' cs_trials_strife_defeaters' cs_trials_settled_in' cs_trials_settled_out' cs_trials_settled_length' cs_trials_settled_order' cg_refusals' => wp_X11_whatIs (fun r2 gw' mg_refusals' mg_hit' mg_lead' mg_defeat' mg_defeater' ms_ins' ms_outs' mg_order' ms_ordered' => Q r r2 cs_trials_draft_size' cs_trials_draft_heard' cs_trials_draft_mode' cs_trials_draft_cast' cs_trials_draft_figures' cs_trials_draft_voices' cs_trials_draft_attacks' cs_trials_draft_supports' cs_trials_strife_hits' cs_trials_strife_leads' cs_trials_strife_defeats' cs_trials_strife_defeaters' cs_trials_settled_in' cs_trials_settled_out' cs_trials_settled_length' cs_trials_settled_order' cg_refusals' gw' mg_refusals' mg_hit' mg_lead' mg_defeat' mg_defeater' ms_ins' ms_outs' mg_order' ms_ordered') gw mg_refusals mg_row ms_rows mg_hit mg_lead mg_defeat mg_defeater ms_ins ms_outs mg_order ms_ordered x1 x2) = P
  obtain ⟨h, H, e, hw⟩ := hH
  have h8 := H.1
  have same : HR sz hr md ca fi vo at_ su gw := ⟨h, H, e, hw⟩
  obtain ⟨n, f, ⟨hn, rfl, rfl⟩, ⟨a1, a2⟩, hb⟩ := hW
  have hf : ∀ k, k < n → f k < 2 ^ 31 := fun k hk => by have := hb k hk; omega
  unfold wp_X10_whatIs
  rw [e.1]
  refine s_knows (by omega) (fun a ha ea => ?_) (fun q => ?_)
  · subst ea
    refine wf2 n1_0 (s_is12 (fun w ew => ?_) (fun q => ?_))
    · subst ew
      refine wf2 n1_0 ?_
      rw [← e.1]
      have fin : ∀ v, v = nI (if w then whS h n f (8 + a) 10 else whS h n f a 6) → ∀ d1 d2 d3 d4 d5 d6 d7 d8 s1 s2 s3 s4 t1 t2 t3 t4, P v d1 d2 d3 d4 d5 d6 d7 d8 s1 s2 s3 s4 t1 t2 t3 t4 cg_refusals := by
        rintro v rfl d1 d2 d3 d4 d5 d6 d7 d8 s1 s2 s3 s4 t1 t2 t3 t4
        rw [← hP]
        refine m_whatIs hw H hn a2 hf ha (fun gw q _ _ _ _ _ _ _ _ => ?_)
        apply hq
        · exact ⟨h, H, e, q⟩
        · exact hR
      refine zc2 (fun z => s_kindsBy H e hn a1 hf ha (fun d1 d2 d3 d4 d5 d6 d7 d8 s1 s2 s3 s4 t1 t2 t3 t4 => fin _ ?_ _ _ _ _ _ _ _ _ _ _ _ _ _ _ _ _)) (fun z => s_figuresBy H e hn a1 hf ha (fun d1 d2 d3 d4 d5 d6 d7 d8 s1 s2 s3 s4 t1 t2 t3 t4 => fin _ ?_ _ _ _ _ _ _ _ _ _ _ _ _ _ _ _ _))
      · rw [z]; rfl
      · rw [z]; rfl
    · refine wt2 rfl (s_refuse rx2 (by decide) (by decide) ?_)
      rw [← hP]
      unfold wp_X11_whatIs
      refine m_isClaimN hw H ha (wf2 n1_0 (m_in12 (fun w ew => absurd ⟨w, ew⟩ q) (fun _ => wt2 rfl (m_refused rx2 (by decide) ?_))))
      apply hq
      · exact same
      · exact hR.up 2
  · refine wt2 rfl (s_refuse rx1 (by decide) (by decide) ?_)
    rw [← hP]
    unfold wp_X11_whatIs
    refine m_isClaim hw H (fun c hc ec => absurd ⟨c, hc, ec⟩ q) (fun _ => wt2 rfl ?_)
    refine m_refused rx1 (by decide) ?_
    apply hq
    · exact same
    · exact hR.up 1
