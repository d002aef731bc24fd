/-! the simulations, fifth part -/
theorem sim_claims {sz : Int32} {hr : Int32} {md : Int32} {ca : Int64} {fi : Int64} {vo : Int64} {at_ : Int64} {su : Int64} {gw : Nat → Int32} {cg_refusals : Nat → Int32} {mg_refusals : Nat → Int32} {x1 : Int32} {x2 : Int32} {x3 : Int32} (hH : HR sz hr md ca fi vo at_ su gw) (hR : rfE cg_refusals mg_refusals) {Q : Int32 → Int32 → Int32 → Int32 → Int64 → Int64 → Int64 → (Nat → Int32) → (Nat → Int32) → (Nat → Int32) → Prop} (hq : ∀ r sz' hr' ca' fi' vo' cg_refusals' gw' mg_refusals', HR sz' hr' md ca' fi' vo' at_ su gw' → rfE cg_refusals' mg_refusals' → Q r r sz' hr' ca' fi' vo' cg_refusals' gw' mg_refusals') : wp_X10_claims (fun r sz' hr' ca' fi' vo' cg_refusals' => wp_X11_claims (fun r2 gw' mg_refusals' => Q r r2 sz' hr' ca' fi' vo' cg_refusals' gw' mg_refusals') gw mg_refusals x1 x2 x3) sz hr ca fi vo cg_refusals x1 x2 x3 := by
  generalize hP : (fun r sz' hr' ca' fi' vo' cg_refusals' => wp_X11_claims (fun r2 gw' mg_refusals' => Q r r2 sz' hr' ca' fi' vo' cg_refusals' gw' mg_refusals') gw mg_refusals x1 x2 x3) = P
  obtain ⟨h, H, e, hw⟩ := hH
  have h8 := H.1
  have e1 := e.1
  unfold wp_X10_claims
  unfold wp_X11_claims at hP
  rw [lx_5] at hP
  have same : HR sz hr md ca fi vo at_ su gw := ⟨h, H, e, hw⟩
  refine s_isKindX (fun k hk ek => ?_) (fun q => ?_)
  · subst ek
    refine wf2 n1_0 ?_
    rcases i_cases x2 (n := 9) (by decide) with ⟨f, hf, rfl⟩ | ⟨z1, z2⟩ | ⟨⟨z1, z2⟩, ⟨z3, z4⟩, z5, z6⟩
    · refine wf (nI_pos (by omega)) ?_
      rcases i_cases x3 (n := 9) (by decide) with ⟨s, hs, rfl⟩ | ⟨y1, y2⟩ | ⟨⟨y1, y2⟩, ⟨y3, y4⟩, y5, y6⟩
      · refine wt (nI_pos' (by omega)) (wf (nI_ge (by omega) (by decide)) (wf (nI_ge (by omega) (by decide)) ?_))
        rw [e1]
        refine s_isFull (by omega) (zc (fun y => ?_) (fun y => ?_))
        · have y1 := of_decide_eq_false y
          have e' := e
          rw [e1] at e'
          refine s_add e' (by omega) hk hf hs (fun sz hr ca fi vo e2 => ?_)
          rw [← hP]
          refine m_inY (by decide) hk (wf2 n1_0 (wf (nI_pos (by omega)) (wt (nI_pos' (by omega)) (wf (nI_nlt (by omega) (by omega)) (wf (nI_nlt (by omega) (by omega)) ?_)))))
          refine m_comes hw H (by omega) hk hf hs (fun gw q => wf2 n1_0 ⟨vp_in_nI (by decide) (by decide), ?_⟩)
          rw [q.rd (by decide) (by decide), adn_42, pk_sub (by omega), Nat.add_sub_cancel]
          exact hq _ _ _ _ _ _ _ _ _ ⟨_, adn_ok H (by omega) hk hf hs, e2, q⟩ hR
        · have y1 := of_decide_eq_true y
          refine s_refuse rx6 (by decide) (by decide) ?_
          rw [← e1, ← hP]
          refine m_inY (by decide) hk (wf2 n1_0 (wf (nI_pos (by omega)) (wt (nI_pos' (by omega)) (wf (nI_nlt (by omega) (by omega)) (wf (nI_nlt (by omega) (by omega)) ?_)))))
          refine m_comes_no hw (Or.inr (by omega)) (wt2 rfl (m_refused rx6 (by decide) ?_))
          exact hq _ _ _ _ _ _ _ _ _ same (hR.up 6)
      · refine wf y2 (s_refuse rx4 (by decide) (by decide) ?_)
        rw [← hP]
        refine m_inY (by decide) hk (wf2 n1_0 (wf (nI_pos (by omega)) (wf y2 (m_refused rx4 (by decide) ?_))))
        exact hq _ _ _ _ _ _ _ _ _ same (hR.up 4)
      · refine wt y2 (wf (nI_ge (by omega) (by decide)) (wt y5 (s_refuse rx6 (by decide) (by decide) ?_)))
        rw [← hP]
        refine m_inY (by decide) hk (wf2 n1_0 (wf (nI_pos (by omega)) (wt y2 (wf (nI_nlt (by omega) (by omega)) (wt y3 (m_refused rx6 (by decide) ?_))))))
        exact hq _ _ _ _ _ _ _ _ _ same (hR.up 6)
    · refine wt z1 (s_refuse rx4 (by decide) (by decide) ?_)
      rw [← hP]
      refine m_inY (by decide) hk (wf2 n1_0 (wt z1 (m_refused rx4 (by decide) ?_)))
      exact hq _ _ _ _ _ _ _ _ _ same (hR.up 4)
    · refine wf z1 ⟨fun y => wt z5 (s_refuse rx6 (by decide) (by decide) ?_), fun y => s_refuse rx4 (by decide) (by decide) ?_⟩
      · rw [← hP]
        refine m_inY (by decide) hk (wf2 n1_0 (wf z1 (wt y (wt z3 (m_refused rx6 (by decide) ?_)))))
        exact hq _ _ _ _ _ _ _ _ _ same (hR.up 6)
      · rw [← hP]
        refine m_inY (by decide) hk (wf2 n1_0 (wf z1 (wf y (m_refused rx4 (by decide) ?_))))
        exact hq _ _ _ _ _ _ _ _ _ same (hR.up 4)
  · refine wt2 rfl (s_refuse rx2 (by decide) (by decide) ?_)
    rw [← hP]
    refine m_inX (by decide) q (wt2 rfl ?_)
    exact m_refused rx2 (by decide) (hq _ _ _ _ _ _ _ _ _ same (hR.up 2))
