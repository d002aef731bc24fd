/-! the simulations, fifteenth part -/
theorem m_among65 {gw gr a b c d gi gs : Nat → Int32} {x1 : Int32} {p : Nat → Bool} {k : Nat} {w : Bool} (hg : az 256 gi p) (hk : k < 8) {post : Int32 → (Nat → Int32) → (Nat → Int32) → (Nat → Int32) → (Nat → Int32) → (Nat → Int32) → (Nat → Int32) → (Nat → Int32) → Prop} (hp : post (zI (if w then decide (0 < cnt (fun s => p s && s.testBit k) 256) && decide (cnt (fun s => p s && s.testBit k) 256 = cnt p 256) else decide (0 < cnt (fun s => p s && s.testBit k) 256))) gr a b c d gi gs) : ∃ n, wp_X11_among_65 post gw x1 (nI k) (zI w) n (nI 0) (nI 0) gr a b c d gi gs := by
  refine loop_0 (fun n i v => wp_X11_among_65 post gw x1 (nI k) (zI w) n v (nI i) gr a b c d gi gs) (fun i v => v = nI (cnt (fun s => p s && s.testBit k) i)) 256 _ rfl ?_ ?_
  · intro n v hv_
    subst hv_
    show wp_X11_among_65 _ _ _ _ _ _ _ _ _ _ _ _ _ _ _
    unfold wp_X11_among_65
    have l1 := cnt_le (fun s => p s && s.testBit k) 256
    have l2 := cnt_le p 256
    refine wt (nI_le (Nat.le_refl _) (by decide)) (wc (nI_le0 (by omega)) (fun q => ?_) (fun q => ?_))
    · rw [q] at hp
      have e : (if w then decide (0 < 0) && decide (0 = cnt p 256) else decide (0 < 0)) = false := by cases w <;> rfl
      rw [e] at hp
      exact hp
    · cases w
      · refine wt rfl ?_
        rw [if_neg (by decide), decide_eq_true (by omega)] at hp
        exact hp
      · refine wf (show ¬ zI true = 0 by decide +kernel) (m_found hg ?_)
        rw [if_pos rfl, decide_eq_true (by omega), Bool.true_and] at hp
        refine wc2 (nI_eq (by omega) (by omega)) (fun y => ?_) (fun y => ?_)
        · rw [decide_eq_true y] at hp; exact hp
        · rw [decide_eq_false y] at hp; exact hp
  · intro n i v hi hv_ ih
    subst hv_
    show wp_X11_among_65 _ _ _ _ _ _ _ _ _ _ _ _ _ _ _
    unfold wp_X11_among_65
    refine wf (nI_ge hi (by decide)) ⟨vp_in_nI hi (by decide), ?_⟩
    rw [hg.rd hi (by decide), nS, nS, nI_add]
    refine zc (fun q => ih _ ?_) (fun q => m_has (by omega) (by omega) (zc (fun y => ih _ ?_) (fun y => ih _ ?_)))
    · rw [cnt, q]; rfl
    · rw [cnt, q, y]; rfl
    · rw [cnt, q, y]; rfl
theorem sim_among {sz : Int32} {hr : Int32} {md : Int32} {ca : Int64} {fi : Int64} {vo : Int64} {at_ : Int64} {su : Int64} {gw : Nat → Int32} {cg_refusals : Nat → Int32} {mg_refusals : Nat → Int32} {cs_strife_hits : Int64} {cs_strife_leads : Int64} {cs_strife_defeats : Int64} {cs_strife_defeaters : Int64} {cg_selection_chosen : Nat → Int32} {cg_selection_marked : Nat → Int32} {cg_selection_surpassed : Nat → Int32} {cs_selection_heard : Int32} {cs_selection_defeats : Int64} {cs_selection_defeaters : Int64} {mg_hit : Nat → Int32} {mg_lead : Nat → Int32} {mg_defeat : Nat → Int32} {mg_defeater : Nat → Int32} {mg_is : Nat → Int32} {mg_was : Nat → Int32} {x1 : Int32} {x2 : Int32} {x3 : Int32} (hH : HR sz hr md ca fi vo at_ su gw) (hR : rfE cg_refusals mg_refusals) {Q : Int32 → Int32 → Int64 → Int64 → Int64 → Int64 → (Nat → Int32) → (Nat → Int32) → (Nat → Int32) → Int32 → Int64 → Int64 → (Nat → Int32) → (Nat → Int32) → (Nat → Int32) → (Nat → Int32) → (Nat → Int32) → (Nat → Int32) → (Nat → Int32) → (Nat → Int32) → Prop} (hq : ∀ r cs_strife_hits' cs_strife_leads' cs_strife_defeats' cs_strife_defeaters' cg_selection_chosen' cg_selection_marked' cg_selection_surpassed' cs_selection_heard' cs_selection_defeats' cs_selection_defeaters' cg_refusals' mg_refusals' mg_hit' mg_lead' mg_defeat' mg_defeater' mg_is' mg_was', rfE cg_refusals' mg_refusals' → Q r r cs_strife_hits' cs_strife_leads' cs_strife_defeats' cs_strife_defeaters' cg_selection_chosen' cg_selection_marked' cg_selection_surpassed' cs_selection_heard' cs_selection_defeats' cs_selection_defeaters' cg_refusals' mg_refusals' mg_hit' mg_lead' mg_defeat' mg_defeater' mg_is' mg_was') : wp_X10_among (fun r cs_strife_hits' cs_strife_leads' cs_strife_defeats' cs_strife_defeaters' cg_selection_chosen' cg_selection_marked' cg_selection_surpassed' cs_selection_heard' cs_selection_defeats' cs_selection_defeaters' cg_refusals' => wp_X11_among (fun r2 mg_refusals' mg_hit' mg_lead' mg_defeat' mg_defeater' mg_is' mg_was' => Q r r2 cs_strife_hits' cs_strife_leads' cs_strife_defeats' cs_strife_defeaters' cg_selection_chosen' cg_selection_marked' cg_selection_surpassed' cs_selection_heard' cs_selection_defeats' cs_selection_defeaters' cg_refusals' mg_refusals' mg_hit' mg_lead' mg_defeat' mg_defeater' mg_is' mg_was') gw mg_refusals mg_hit mg_lead mg_defeat mg_defeater mg_is mg_was x1 x2 x3) sz hr md ca fi at_ su cs_strife_hits cs_strife_leads cs_strife_defeats cs_strife_defeaters cg_selection_chosen cg_selection_marked cg_selection_surpassed cs_selection_heard cs_selection_defeats cs_selection_defeaters cg_refusals x1 x2 x3 := by
  generalize hP : (fun r cs_strife_hits' cs_strife_leads' cs_strife_defeats' cs_strife_defeaters' cg_selection_chosen' cg_selection_marked' cg_selection_surpassed' cs_selection_heard' cs_selection_defeats' cs_selection_defeaters' cg_refusals' => wp_X11_among (fun r2 mg_refusals' mg_hit' mg_lead' mg_defeat' mg_defeater' mg_is' mg_was' => Q r r2 cs_strife_hits' cs_strife_leads' cs_strife_defeats' cs_strife_defeaters' cg_selection_chosen' cg_selection_marked' cg_selection_surpassed' cs_selection_heard' cs_selection_defeats' cs_selection_defeaters' cg_refusals' mg_refusals' mg_hit' mg_lead' mg_defeat' mg_defeater' mg_is' mg_was') gw mg_refusals mg_hit mg_lead mg_defeat mg_defeater mg_is mg_was x1 x2 x3) = P
  obtain ⟨h, H, e, hw⟩ := hH
  have h8 := H.1
  obtain ⟨rfl, rfl, rfl, rfl, rfl, rfl, rfl, rfl⟩ := e
  unfold wp_X10_among
  unfold wp_X11_among at hP
  rw [lx_5] at hP
  refine s_isSortX (fun s hs es => ?_) (fun q => ?_)
  · subst es
    refine wf2 n1_0 (s_knows (by omega) (fun a ha ea => ?_) (fun q => ?_))
    · subst ea
      have ha8 : a < 8 := by omega
      refine wf2 n1_0 (s_is12 (fun w ew => ?_) (fun q => ?_))
      · subst ew
        refine wf2 n1_0 (s_reckon H (s_select H hs (fun g1 g2 g3 i1 => s_size i1 (s_sizeWith i1 ha8 ?_))))
        have fin : ∀ v, v = zI (if w then decide (0 < cnt (fun t => srt h s t && t.testBit a) 256) && decide (cnt (fun t => srt h s t && t.testBit a) 256 = cnt (srt h s) 256) else decide (0 < cnt (fun t => srt h s t && t.testBit a) 256)) → P v (pL (hit h)) (pL (lead h)) (pL (dft h)) (pL (dfr h)) g1 g2 g3 (nI (h 40)) (pL (dft h)) (pL (dfr h)) cg_refusals := by
          rintro v rfl
          rw [← hP]
          refine m_inY (by decide) hs (wf2 n1_0 (m_isClaimN hw H ha (wf2 n1_0 (m_in12 (fun _ _ => wf2 n1_0 ?_) (fun q => absurd ⟨w, rfl⟩ q)))))
          refine m_reckons hw H (fun _ _ gd gr _ _ j3 j4 => m_finds hw H j3 j4 hs (fun gi gs k1 => m_among65 k1 ha8 ?_))
          apply hq
          exact hR
        have l1 := cnt_le (fun t => srt h s t && t.testBit a) 256
        have l2 := cnt_le (srt h s) 256
        have z0 : cnt (srt h s) 256 = 0 → cnt (fun t => srt h s t && t.testBit a) 256 = 0 := fun q => cnt_0.mpr (fun i hi => by rw [cnt_0.mp q i hi]; rfl)
        cases w
        · refine wt2 rfl (wc (nI_le0 (by omega)) (fun q => ?_) (fun q => ?_))
          · unfold wp_X10_among_128
            refine wt rfl (fin _ ?_)
            rw [if_neg (by decide), decide_eq_false (by omega)]; rfl
          · unfold wp_X10_among_128
            refine wf n1_0 (fin _ ?_)
            rw [if_neg (by decide), decide_eq_true (by omega)]; rfl
        · refine wf2 (show ¬ zI true = 0 by decide +kernel) (wc (nI_le0 (by omega)) (fun q => ?_) (fun q => wc2 (nI_eq (by omega) (by omega)) (fun y => ?_) (fun y => ?_)))
          · unfold wp_X10_among_128
            refine wt rfl (fin _ ?_)
            have := z0 q
            rw [if_pos rfl, decide_eq_false (by omega)]; rfl
          · unfold wp_X10_among_128
            refine wf n1_0 (fin _ ?_)
            rw [if_pos rfl, decide_eq_true (by omega), decide_eq_true y]; rfl
          · unfold wp_X10_among_128
            refine wt rfl (fin _ ?_)
            rw [if_pos rfl, decide_eq_false y, Bool.and_false]; rfl
      · refine wt2 rfl (s_refuse rx2 (by decide) (by decide) ?_)
        rw [← hP]
        refine m_inY (by decide) hs (wf2 n1_0 (m_isClaimN hw H ha (wf2 n1_0 (m_in12 (fun w ew => absurd ⟨w, ew⟩ q) (fun _ => wt2 rfl (m_refused rx2 (by decide) ?_))))))
        apply hq
        exact hR.up 2
    · refine wt2 rfl (s_refuse rx1 (by decide) (by decide) ?_)
      rw [← hP]
      refine m_inY (by decide) hs (wf2 n1_0 (m_isClaim hw H (fun c hc ec => absurd ⟨c, hc, ec⟩ q) (fun _ => wt2 rfl (m_refused rx1 (by decide) ?_))))
      apply hq
      exact hR.up 1
  · refine wt2 rfl (s_refuse rx2 (by decide) (by decide) ?_)
    rw [← hP]
    refine m_inX (by decide) q (wt2 rfl (m_refused rx2 (by decide) ?_))
    apply hq
    exact hR.up 2
