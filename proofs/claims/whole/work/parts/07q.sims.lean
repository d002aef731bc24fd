/-! the simulations, thirteenth part -/
theorem sim_lots {sz : Int32} {hr : Int32} {md : Int32} {ca : Int64} {fi : Int64} {vo : Int64} {at_ : Int64} {su : Int64} {gw : Nat → Int32} {cg_refusals : Nat → Int32} {mg_refusals : Nat → Int32} {cs_trials_draft_size : Int32} {cs_trials_draft_heard : Int32} {cs_trials_draft_mode : Int32} {cs_trials_draft_cast : Int64} {cs_trials_draft_figures : Int64} {cs_trials_draft_voices : Int64} {cs_trials_draft_attacks : Int64} {cs_trials_draft_supports : Int64} {cs_trials_strife_hits : Int64} {cs_trials_strife_leads : Int64} {cs_trials_strife_defeats : Int64} {cs_trials_strife_defeaters : Int64} {cs_trials_settled_in : Int32} {cs_trials_settled_out : Int32} {cs_trials_settled_length : Int32} {cs_trials_settled_order : Int64} {mg_laid : Nat → Int32} {mg_hit : Nat → Int32} {mg_lead : Nat → Int32} {mg_defeat : Nat → Int32} {mg_defeater : Nat → Int32} {ms_ins : Int32} {ms_outs : Int32} {mg_order : Nat → Int32} {ms_ordered : Int32} {mg_is : Nat → Int32} {ms_z : Int32} {x1 : Int32} {x2 : Int32} {x3 : Int32} (hH : HR sz hr md ca fi vo at_ su gw) (hR : rfE cg_refusals mg_refusals) {Q : Int32 → Int32 → Int32 → Int32 → Int32 → Int64 → Int64 → Int64 → Int64 → Int64 → Int64 → Int64 → Int64 → Int64 → Int32 → Int32 → Int32 → Int64 → (Nat → Int32) → (Nat → Int32) → (Nat → Int32) → (Nat → Int32) → (Nat → Int32) → (Nat → Int32) → (Nat → Int32) → (Nat → Int32) → Int32 → Int32 → (Nat → Int32) → Int32 → (Nat → Int32) → Int32 → Prop} (hq : ∀ r cs_trials_draft_size' cs_trials_draft_heard' cs_trials_draft_mode' cs_trials_draft_cast' cs_trials_draft_figures' cs_trials_draft_voices' cs_trials_draft_attacks' cs_trials_draft_supports' cs_trials_strife_hits' cs_trials_strife_leads' cs_trials_strife_defeats' cs_trials_strife_defeaters' cs_trials_settled_in' cs_trials_settled_out' cs_trials_settled_length' cs_trials_settled_order' cg_refusals' gw' mg_laid' mg_refusals' mg_hit' mg_lead' mg_defeat' mg_defeater' ms_ins' ms_outs' mg_order' ms_ordered' mg_is' ms_z', HR sz hr md ca fi vo at_ su gw' → rfE cg_refusals' mg_refusals' → Q r r cs_trials_draft_size' cs_trials_draft_heard' cs_trials_draft_mode' cs_trials_draft_cast' cs_trials_draft_figures' cs_trials_draft_voices' cs_trials_draft_attacks' cs_trials_draft_supports' cs_trials_strife_hits' cs_trials_strife_leads' cs_trials_strife_defeats' cs_trials_strife_defeaters' cs_trials_settled_in' cs_trials_settled_out' cs_trials_settled_length' cs_trials_settled_order' cg_refusals' gw' mg_laid' mg_refusals' mg_hit' mg_lead' mg_defeat' mg_defeater' ms_ins' ms_outs' mg_order' ms_ordered' mg_is' ms_z') : wp_X10_lots (fun r cs_trials_draft_size' cs_trials_draft_heard' cs_trials_draft_mode' cs_trials_draft_cast' cs_trials_draft_figures' cs_trials_draft_voices' cs_trials_draft_attacks' cs_trials_draft_supports' cs_trials_strife_hits' cs_trials_strife_leads' cs_trials_strife_defeats' cs_trials_strife_defeaters' cs_trials_settled_in' cs_trials_settled_out' cs_trials_settled_length' cs_trials_settled_order' cg_refusals' => wp_X11_lots (fun r2 gw' mg_laid' mg_refusals' mg_hit' mg_lead' mg_defeat' mg_defeater' ms_ins' ms_outs' mg_order' ms_ordered' mg_is' ms_z' => Q r r2 cs_trials_draft_size' cs_trials_draft_heard' cs_trials_draft_mode' cs_trials_draft_cast' cs_trials_draft_figures' cs_trials_draft_voices' cs_trials_draft_attacks' cs_trials_draft_supports' cs_trials_strife_hits' cs_trials_strife_leads' cs_trials_strife_defeats' cs_trials_strife_defeaters' cs_trials_settled_in' cs_trials_settled_out' cs_trials_settled_length' cs_trials_settled_order' cg_refusals' gw' mg_laid' mg_refusals' mg_hit' mg_lead' mg_defeat' mg_defeater' ms_ins' ms_outs' mg_order' ms_ordered' mg_is' ms_z') gw mg_laid mg_refusals mg_hit mg_lead mg_defeat mg_defeater ms_ins ms_outs mg_order ms_ordered mg_is ms_z x1 x2 x3) sz hr md ca fi vo at_ su cs_trials_draft_size cs_trials_draft_heard cs_trials_draft_mode cs_trials_draft_cast cs_trials_draft_figures cs_trials_draft_voices cs_trials_draft_attacks cs_trials_draft_supports cs_trials_strife_hits cs_trials_strife_leads cs_trials_strife_defeats cs_trials_strife_defeaters cs_trials_settled_in cs_trials_settled_out cs_trials_settled_length cs_trials_settled_order cg_refusals x1 x2 x3 := by
  generalize hP : (fun r cs_trials_draft_size' cs_trials_draft_heard' cs_trials_draft_mode' cs_trials_draft_cast' cs_trials_draft_figures' cs_trials_draft_voices' cs_trials_draft_attacks' cs_trials_draft_supports' cs_trials_strife_hits' cs_trials_strife_leads' cs_trials_strife_defeats' cs_trials_strife_defeaters' cs_trials_settled_in' cs_trials_settled_out' cs_trials_settled_length' cs_trials_settled_order' cg_refusals' => wp_X11_lots (fun r2 gw' mg_laid' mg_refusals' mg_hit' mg_lead' mg_defeat' mg_defeater' ms_ins' ms_outs' mg_order' ms_ordered' mg_is' ms_z' => Q r r2 cs_trials_draft_size' cs_trials_draft_heard' cs_trials_draft_mode' cs_trials_draft_cast' cs_trials_draft_figures' cs_trials_draft_voices' cs_trials_draft_attacks' cs_trials_draft_supports' cs_trials_strife_hits' cs_trials_strife_leads' cs_trials_strife_defeats' cs_trials_strife_defeaters' cs_trials_settled_in' cs_trials_settled_out' cs_trials_settled_length' cs_trials_settled_order' cg_refusals' gw' mg_laid' mg_refusals' mg_hit' mg_lead' mg_defeat' mg_defeater' ms_ins' ms_outs' mg_order' ms_ordered' mg_is' ms_z') gw mg_laid mg_refusals mg_hit mg_lead mg_defeat mg_defeater ms_ins ms_outs mg_order ms_ordered mg_is ms_z x1 x2 x3) = P
  obtain ⟨h, H, e, hw⟩ := hH
  have h8 := H.1
  have same : HR sz hr md ca fi vo at_ su gw := ⟨h, H, e, hw⟩
  unfold wp_X10_lots
  have bad : ∀ (x : Int32) (k : Nat), -x = nI k → k ≤ 6 → (¬ ∃ c, (1 ≤ c ∧ c ≤ 20) ∧ x1 = nI c) → (nI 1 ≤ x1 → x = -6) → (¬ nI 1 ≤ x1 → x = -4) → P x cs_trials_draft_size cs_trials_draft_heard cs_trials_draft_mode cs_trials_draft_cast cs_trials_draft_figures cs_trials_draft_voices cs_trials_draft_attacks cs_trials_draft_supports cs_trials_strife_hits cs_trials_strife_leads cs_trials_strife_defeats cs_trials_strife_defeaters cs_trials_settled_in cs_trials_settled_out cs_trials_settled_length cs_trials_settled_order (upd cg_refusals k (cg_refusals k + nI 1)) := fun x k hx hk q g6 g4 => by
    rw [← hP]
    unfold wp_X11_lots
    rw [l_20]
    refine m_inN (by decide) (by decide) (fun c c0 c1 ec => absurd ⟨c, ⟨c0, c1⟩, ec⟩ q) (fun _ => wt2 rfl ⟨fun y => ?_, fun y => ?_⟩)
    · rw [← g6 y]
      refine m_refused hx hk ?_
      apply hq
      · exact same
      · exact hR.up k
    · rw [← g4 y]
      refine m_refused hx hk ?_
      apply hq
      · exact same
      · exact hR.up k
  rcases i_cases x1 (n := 20) (by decide) with ⟨N, hN, rfl⟩ | ⟨z1, z2⟩ | ⟨⟨z1, z2⟩, ⟨z3, z4⟩, z5, z6⟩
  · by_cases N1 : 1 ≤ N
    · refine wt (nI_le N1 (by omega)) (wt (nI_le hN (by decide)) (s_is12 (fun w ew => ?_) (fun q => ?_)))
      · subst ew
        refine wf2 n1_0 ?_
        have fin : ∀ v, v = nI (lts h x2 w N).2 → ∀ d1 d2 d3 d4 d5 d6 d7 d8 s1 s2 s3 s4 t1 t2 t3 t4, P v d1 d2 d3 d4 d5 d6 d7 d8 s1 s2 s3 s4 t1 t2 t3 t4 cg_refusals := by
          rintro v rfl d1 d2 d3 d4 d5 d6 d7 d8 s1 s2 s3 s4 t1 t2 t3 t4
          rw [← hP]
          refine m_lots H hw hN N1 (fun gw gla q _ _ _ _ _ _ _ _ _ _ => ?_)
          apply hq
          · exact ⟨h, H, e, q⟩
          · exact hR
        refine ⟨fun k => ?_, fun k => ?_⟩
        · have kw := (zI_n1 w).mp k
          exact s_drawn H e (w := false) (by omega) (fun d1 d2 d3 d4 d5 d6 d7 d8 s1 s2 s3 s4 t1 t2 t3 t4 => fin _ (by rw [kw]) _ _ _ _ _ _ _ _ _ _ _ _ _ _ _ _)
        · have kw := (zI_1 w).mp k
          exact s_drawn H e (w := true) (by omega) (fun d1 d2 d3 d4 d5 d6 d7 d8 s1 s2 s3 s4 t1 t2 t3 t4 => fin _ (by rw [kw]) _ _ _ _ _ _ _ _ _ _ _ _ _ _ _ _)
      · refine wt2 rfl (s_refuse rx2 (by decide) (by decide) ?_)
        rw [← hP]
        unfold wp_X11_lots
        rw [l_20]
        refine m_inN (by decide) (by decide) (fun _ _ _ _ => wf2 n1_0 (m_in12 (fun w ew => absurd ⟨w, ew⟩ q) (fun _ => wt2 rfl (m_refused rx2 (by decide) ?_)))) (fun q => absurd ⟨N, ⟨N1, hN⟩, rfl⟩ q)
        apply hq
        · exact same
        · exact hR.up 2
    · have nl : ¬ nI 1 ≤ nI N := nI_ge (by omega) (by decide)
      refine wf nl (s_refuse rx4 (by decide) (by decide) (bad _ 4 rx4 (by decide) ?_ (fun y => absurd y nl) (fun _ => rfl)))
      rintro ⟨d, ⟨d1, d2⟩, ed⟩
      have := (nI_eq (by omega) (by omega)).mp ed
      omega
  · have nl := neg_nle (n := 1) (by decide) z1
    refine wf nl (s_refuse rx4 (by decide) (by decide) (bad _ 4 rx4 (by decide) ?_ (fun y => absurd y nl) (fun _ => rfl)))
    rintro ⟨d, ⟨d1, d2⟩, rfl⟩
    exact nI_pos (by omega) z1
  · have z7 := gt_le (by decide) (show 1 ≤ 20 by decide) z3
    refine wt z7 (wf z4 (s_refuse rx6 (by decide) (by decide) (bad _ 6 rx6 (by decide) ?_ (fun _ => rfl) (fun y => absurd z7 y))))
    rintro ⟨d, ⟨d1, d2⟩, ed⟩
    exact i_no2 (by decide) z3 ⟨d, ⟨Nat.zero_le _, d2⟩, ed⟩
