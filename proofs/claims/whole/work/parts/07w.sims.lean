/-! the simulations, nineteenth part -/
theorem m_inC {x : Int32} {n : Nat} (hn : n < 2 ^ 30) {post : Int32 → Prop} (ht : ∀ c, c < n → x = nI c → post (nI 1)) (hf : (¬ ∃ c, c < n ∧ x = nI c) → post (nI 0)) : wp_X11_in post x.toInt64 (lN 0) (nI n - nI 1).toInt64 := by
  have em : (nI n - nI 1).toInt64.toInt = (n : Int) - 1 := by
    rw [Int32.toInt_toInt64, pk_sub_toInt (by omega) (by omega)]
    rfl
  have e0 : (lN 0).toInt = 0 := lN_toInt (by decide)
  refine m_in (fun h1 h2 => ?_) (fun q => hf ?_)
  · rw [e0, Int32.toInt_toInt64] at h1
    rw [em, Int32.toInt_toInt64] at h2
    exact ht x.toInt.toNat (by omega) (nI_ofT (by omega) (by omega))
  · rintro ⟨c, hc, rfl⟩
    apply q
    rw [e0, em, Int32.toInt_toInt64, nI_toInt (by omega)]
    omega
theorem sim_speakers {sz : Int32} {hr : Int32} {md : Int32} {ca : Int64} {fi : Int64} {vo : Int64} {at_ : Int64} {su : Int64} {gw : Nat → Int32} {cg_refusals : Nat → Int32} {mg_refusals : Nat → Int32} {cs_strife_hits : Int64} {cs_strife_leads : Int64} {cs_strife_defeats : Int64} {cs_strife_defeaters : Int64} {cs_settled_in : Int32} {cs_settled_out : Int32} {cs_settled_length : Int32} {cs_settled_order : Int64} {mg_hit : Nat → Int32} {mg_lead : Nat → Int32} {mg_defeat : Nat → Int32} {mg_defeater : Nat → Int32} {ms_ins : Int32} {ms_outs : Int32} {mg_order : Nat → Int32} {ms_ordered : Int32} {x1 : Int32} {x2 : Int32} (hH : HR sz hr md ca fi vo at_ su gw) (hR : rfE cg_refusals mg_refusals) {Q : Int32 → Int32 → Int64 → Int64 → Int64 → Int64 → Int32 → Int32 → Int32 → Int64 → (Nat → Int32) → (Nat → Int32) → (Nat → Int32) → (Nat → Int32) → (Nat → Int32) → (Nat → Int32) → Int32 → Int32 → (Nat → Int32) → Int32 → Prop} (hq : ∀ r cs_strife_hits' cs_strife_leads' cs_strife_defeats' cs_strife_defeaters' cs_settled_in' cs_settled_out' cs_settled_length' cs_settled_order' cg_refusals' mg_refusals' mg_hit' mg_lead' mg_defeat' mg_defeater' ms_ins' ms_outs' mg_order' ms_ordered', rfE cg_refusals' mg_refusals' → Q r r cs_strife_hits' cs_strife_leads' cs_strife_defeats' cs_strife_defeaters' cs_settled_in' cs_settled_out' cs_settled_length' cs_settled_order' cg_refusals' mg_refusals' mg_hit' mg_lead' mg_defeat' mg_defeater' ms_ins' ms_outs' mg_order' ms_ordered') : wp_X10_speakers (fun r cs_strife_hits' cs_strife_leads' cs_strife_defeats' cs_strife_defeaters' cs_settled_in' cs_settled_out' cs_settled_length' cs_settled_order' cg_refusals' => wp_X11_speakers (fun r2 mg_refusals' mg_hit' mg_lead' mg_defeat' mg_defeater' ms_ins' ms_outs' mg_order' ms_ordered' => Q r r2 cs_strife_hits' cs_strife_leads' cs_strife_defeats' cs_strife_defeaters' cs_settled_in' cs_settled_out' cs_settled_length' cs_settled_order' cg_refusals' mg_refusals' mg_hit' mg_lead' mg_defeat' mg_defeater' ms_ins' ms_outs' mg_order' ms_ordered') gw mg_refusals mg_hit mg_lead mg_defeat mg_defeater ms_ins ms_outs mg_order ms_ordered x1 x2) sz hr md ca fi vo at_ su cs_strife_hits cs_strife_leads cs_strife_defeats cs_strife_defeaters cs_settled_in cs_settled_out cs_settled_length cs_settled_order cg_refusals x1 x2 := by
  generalize hP : (fun r cs_strife_hits' cs_strife_leads' cs_strife_defeats' cs_strife_defeaters' cs_settled_in' cs_settled_out' cs_settled_length' cs_settled_order' cg_refusals' => wp_X11_speakers (fun r2 mg_refusals' mg_hit' mg_lead' mg_defeat' mg_defeater' ms_ins' ms_outs' mg_order' ms_ordered' => Q r r2 cs_strife_hits' cs_strife_leads' cs_strife_defeats' cs_strife_defeaters' cs_settled_in' cs_settled_out' cs_settled_length' cs_settled_order' cg_refusals' mg_refusals' mg_hit' mg_lead' mg_defeat' mg_defeater' ms_ins' ms_outs' mg_order' ms_ordered') gw mg_refusals mg_hit mg_lead mg_defeat mg_defeater ms_ins ms_outs mg_order ms_ordered x1 x2) = P
  obtain ⟨h, H, e, hw⟩ := hH
  have h8 := H.1
  obtain ⟨rfl, rfl, rfl, rfl, rfl, rfl, rfl, rfl⟩ := e
  unfold wp_X10_speakers
  unfold wp_X11_speakers at hP
  have c10 := cnt_le (spT h) 10
  by_cases km : x1 = (-1 : Int32)
  · refine wt2 km (s_speakersThere H ?_)
    rw [← hP]
    refine wt2 km (m_speakersAll hw H ?_)
    apply hq
    exact hR
  · refine wf2 km (s_speakerAt H (fun i s ei hs hst hi => ?_) (fun q => ?_))
    · subst ei
      have hc10 : i < cnt (spT h) 10 := by
        have := cnt_mono (p := spT h) (n := s + 1) 10 (by omega)
        rw [cnt_t hst] at this
        omega
      refine wt (nI_pos' (by omega)) ?_
      have ct := clO_lt H s
      have bad : (¬ ∃ k, k ≤ 3 ∧ x2 = nI k) → P (-2) cs_strife_hits cs_strife_leads cs_strife_defeats cs_strife_defeaters cs_settled_in cs_settled_out cs_settled_length cs_settled_order (upd cg_refusals 2 (cg_refusals 2 + nI 1)) := fun q => by
        rw [← hP]
        refine wf2 km (m_speakersAll hw H (m_inC (by omega) (fun _ _ _ => wf2 n1_0 (m_speakerAt hw H hs hst hi ?_)) (fun q => absurd ⟨i, hc10, rfl⟩ q)))
        refine ⟨fun _ => m_refused rx2 (by decide) ?_, far_e q 0 (by decide), far_e q 1 (by decide), far_e q 2 (by decide), far_e q 3 (by decide)⟩
        apply hq
        exact hR.up 2
      rcases i_cases x2 (n := 3) (by decide) with ⟨k, hk, rfl⟩ | ⟨z1, z2⟩ | ⟨⟨z1, z2⟩, ⟨z3, z4⟩, z5, z6⟩
      · refine wf (nI_pos (by omega)) (wt (nI_le hk (by decide)) (s_claimsOf H (by omega) ?_))
        have hk4 : k = 0 ∨ k = 1 ∨ k = 2 ∨ k = 3 := by omega
        rcases hk4 with rfl | rfl | rfl | rfl
        · refine ⟨sw_lo (n := 2) (by decide) (by decide), fun _ => ?_, sw_ne (by decide) (by decide) (by decide), sw_ne (by decide) (by decide) (by decide)⟩
          rw [← hP]
          refine wf2 km (m_speakersAll hw H (m_inC (by omega) (fun _ _ _ => wf2 n1_0 (m_speakerAt hw H hs hst hi ?_)) (fun q => absurd ⟨i, hc10, rfl⟩ q)))
          refine ⟨sw_lo (n := 3) (by decide) (by decide), fun _ => ?_, sw_ne (by decide) (by decide) (by decide), sw_ne (by decide) (by decide) (by decide), sw_ne (by decide) (by decide) (by decide)⟩
          apply hq
          exact hR
        · refine ⟨sw_lo (n := 2) (by decide) (by decide), sw_ne (by decide) (by decide) (by decide), fun _ => s_bitCount ct ?_, sw_ne (by decide) (by decide) (by decide)⟩
          rw [← hP]
          refine wf2 km (m_speakersAll hw H (m_inC (by omega) (fun _ _ _ => wf2 n1_0 (m_speakerAt hw H hs hst hi ?_)) (fun q => absurd ⟨i, hc10, rfl⟩ q)))
          refine ⟨sw_lo (n := 3) (by decide) (by decide), sw_ne (by decide) (by decide) (by decide), fun _ => m_claimsOf hw H (by omega) (m_ones (by omega) ?_), sw_ne (by decide) (by decide) (by decide), sw_ne (by decide) (by decide) (by decide)⟩
          apply hq
          exact hR
        · refine ⟨sw_lo (n := 2) (by decide) (by decide), sw_ne (by decide) (by decide) (by decide), sw_ne (by decide) (by decide) (by decide), fun _ => s_settle H ⟨rfl, rfl, rfl, rfl, rfl, rfl, rfl, rfl⟩ (fun c1 c2 c3 c4 => ?_)⟩
          have lt : clO h s &&& tI h < 256 := Nat.lt_of_le_of_lt Nat.and_le_left ct
          rw [nx_and]
          refine s_bitCount lt ?_
          rw [← hP]
          refine wf2 km (m_speakersAll hw H (m_inC (by omega) (fun _ _ _ => wf2 n1_0 (m_speakerAt hw H hs hst hi ?_)) (fun q => absurd ⟨i, hc10, rfl⟩ q)))
          refine ⟨sw_lo (n := 3) (by decide) (by decide), sw_ne (by decide) (by decide) (by decide), sw_ne (by decide) (by decide) (by decide), fun _ => m_turnsAll hw H (fun g1 g2 g3 g4 go j1 j2 j3 j4 j5 => m_claimsOf hw H (by omega) ?_), sw_ne (by decide) (by decide) (by decide)⟩
          rw [nx_and]
          refine m_ones (by omega) ?_
          apply hq
          exact hR
        · refine ⟨fun _ => s_greatestFigure H ct ?_, sw_ne (by decide) (by decide) (by decide), sw_ne (by decide) (by decide) (by decide), sw_ne (by decide) (by decide) (by decide)⟩
          rw [← hP]
          refine wf2 km (m_speakersAll hw H (m_inC (by omega) (fun _ _ _ => wf2 n1_0 (m_speakerAt hw H hs hst hi ?_)) (fun q => absurd ⟨i, hc10, rfl⟩ q)))
          refine ⟨sw_lo (n := 3) (by decide) (by decide), sw_ne (by decide) (by decide) (by decide), sw_ne (by decide) (by decide) (by decide), sw_ne (by decide) (by decide) (by decide), fun _ => m_claimsOf hw H (by omega) (m_greatestOf hw H ct ?_)⟩
          apply hq
          exact hR
      · refine wt z1 (s_refuse rx2 (by decide) (by decide) (bad ?_))
        rintro ⟨k, hk, rfl⟩
        exact nI_pos (by omega) z1
      · refine wf z1 (wf z4 (s_refuse rx2 (by decide) (by decide) (bad ?_)))
        rintro ⟨k, hk, rfl⟩
        exact nI_nlt hk (by decide) z3
    · refine wf (show ¬ (0 : Int32) ≤ -1 by decide +kernel) (s_refuse rx1 (by decide) (by decide) ?_)
      rw [← hP]
      refine wf2 km (m_speakersAll hw H (m_inC (by omega) (fun c hc ec => absurd ⟨c, hc, ec⟩ q) (fun _ => wt2 rfl (m_refused rx1 (by decide) ?_))))
      apply hq
      exact hR.up 1
