/-! the simulations, sixth part -/
theorem s_settle {h : Nat → Nat} (H : hv h) {sz hr md : Int32} {ca fi vo at_ su : Int64} (e : HC h sz hr md ca fi vo at_ su) {a1 a2 a3 a4 : Int64} {b1 b2 b3 : Int32} {b4 : Int64} {post : Int64 → Int64 → Int64 → Int64 → Int32 → Int32 → Int32 → Int64 → Prop} (hp : ∀ c1 c2 c3 c4, post c1 c2 c3 c4 (nI (tI h)) (nI (tO h)) (nI (tN h)) (pL (tS h))) : wp_X10_settle post sz hr md ca fi at_ su a1 a2 a3 a4 b1 b2 b3 b4 := by
  obtain ⟨rfl, rfl, rfl, rfl, rfl, rfl, rfl, rfl⟩ := e
  unfold wp_X10_settle
  refine s_reckon H (s_run H ?_)
  exact hp _ _ _ _
theorem m1_cases (x : Int32) : (x < -1 ∧ ¬ (-1 : Int32) ≤ x ∧ ¬ 0 ≤ x) ∨ x = -1 ∨ ((-1 : Int32) ≤ x ∧ ¬ x < -1 ∧ ¬ x = -1 ∧ 0 ≤ x ∧ ¬ x < 0) := by
  have e0 : (0 : Int32).toInt = 0 := by decide +kernel
  have e1 : (-1 : Int32).toInt = -1 := by decide +kernel
  by_cases q : x = -1
  · exact Or.inr (Or.inl q)
  · have q2 : ¬ x.toInt = -1 := fun k => q (Int32.toInt_inj.mp (by rw [k, e1]))
    simp only [Int32.lt_iff_toInt_lt, Int32.le_iff_toInt_le, e0, e1]
    by_cases a : x.toInt < -1
    · exact Or.inl ⟨a, by omega, by omega⟩
    · exact Or.inr (Or.inr ⟨by omega, a, q, by omega, by omega⟩)
theorem sim_label {sz : Int32} {hr : Int32} {md : Int32} {ca : Int64} {fi : Int64} {vo : Int64} {at_ : Int64} {su : Int64} {gw : Nat → Int32} {cg_refusals : Nat → Int32} {mg_refusals : Nat → Int32} {cs_strife_hits : Int64} {cs_strife_leads : Int64} {cs_strife_defeats : Int64} {cs_strife_defeaters : Int64} {cs_settled_in : Int32} {cs_settled_out : Int32} {cs_settled_length : Int32} {cs_settled_order : Int64} {mg_hit : Nat → Int32} {mg_lead : Nat → Int32} {mg_defeat : Nat → Int32} {mg_defeater : Nat → Int32} {ms_ins : Int32} {ms_outs : Int32} {mg_order : Nat → Int32} {ms_ordered : Int32} {x1 : Int32} (hH : HR sz hr md ca fi vo at_ su gw) (hR : rfE cg_refusals mg_refusals) {Q : Int32 → Int32 → Int64 → Int64 → Int64 → Int64 → Int32 → Int32 → Int32 → Int64 → (Nat → Int32) → (Nat → Int32) → (Nat → Int32) → (Nat → Int32) → (Nat → Int32) → (Nat → Int32) → Int32 → Int32 → (Nat → Int32) → Int32 → Prop} (hq : ∀ r cs_strife_hits' cs_strife_leads' cs_strife_defeats' cs_strife_defeaters' cs_settled_in' cs_settled_out' cs_settled_length' cs_settled_order' cg_refusals' mg_refusals' mg_hit' mg_lead' mg_defeat' mg_defeater' ms_ins' ms_outs' mg_order' ms_ordered', rfE cg_refusals' mg_refusals' → Q r r cs_strife_hits' cs_strife_leads' cs_strife_defeats' cs_strife_defeaters' cs_settled_in' cs_settled_out' cs_settled_length' cs_settled_order' cg_refusals' mg_refusals' mg_hit' mg_lead' mg_defeat' mg_defeater' ms_ins' ms_outs' mg_order' ms_ordered') : wp_X10_label (fun r cs_strife_hits' cs_strife_leads' cs_strife_defeats' cs_strife_defeaters' cs_settled_in' cs_settled_out' cs_settled_length' cs_settled_order' cg_refusals' => wp_X11_label (fun r2 mg_refusals' mg_hit' mg_lead' mg_defeat' mg_defeater' ms_ins' ms_outs' mg_order' ms_ordered' => Q r r2 cs_strife_hits' cs_strife_leads' cs_strife_defeats' cs_strife_defeaters' cs_settled_in' cs_settled_out' cs_settled_length' cs_settled_order' cg_refusals' mg_refusals' mg_hit' mg_lead' mg_defeat' mg_defeater' ms_ins' ms_outs' mg_order' ms_ordered') gw mg_refusals mg_hit mg_lead mg_defeat mg_defeater ms_ins ms_outs mg_order ms_ordered x1) sz hr md ca fi at_ su cs_strife_hits cs_strife_leads cs_strife_defeats cs_strife_defeaters cs_settled_in cs_settled_out cs_settled_length cs_settled_order cg_refusals x1 := by
  generalize hP : (fun r cs_strife_hits' cs_strife_leads' cs_strife_defeats' cs_strife_defeaters' cs_settled_in' cs_settled_out' cs_settled_length' cs_settled_order' cg_refusals' => wp_X11_label (fun r2 mg_refusals' mg_hit' mg_lead' mg_defeat' mg_defeater' ms_ins' ms_outs' mg_order' ms_ordered' => Q r r2 cs_strife_hits' cs_strife_leads' cs_strife_defeats' cs_strife_defeaters' cs_settled_in' cs_settled_out' cs_settled_length' cs_settled_order' cg_refusals' mg_refusals' mg_hit' mg_lead' mg_defeat' mg_defeater' ms_ins' ms_outs' mg_order' ms_ordered') gw mg_refusals mg_hit mg_lead mg_defeat mg_defeater ms_ins ms_outs mg_order ms_ordered x1) = P
  obtain ⟨h, H, e, hw⟩ := hH
  have h8 := H.1
  unfold wp_X10_label
  rw [e.1]
  refine s_knows (by omega) (fun a ha ea => ?_) (fun q => ?_)
  · subst ea
    refine wf2 n1_0 ?_
    rw [← e.1]
    refine s_settle H e (fun c1 c2 c3 c4 => ?_)
    rw [e.1, e.2.1]
    refine s_labelOf H ha ?_
    rw [← hP]
    unfold wp_X11_label
    refine m_isClaimN hw H ha (wf2 n1_0 (m_turnsAll hw H (fun _ _ _ _ _ _ _ _ _ _ => m_labelOf hw H (by omega) ?_)))
    exact hq _ _ _ _ _ _ _ _ _ _ _ _ _ _ _ _ _ _ _ hR
  · refine wt2 rfl (s_refuse rx1 (by decide) (by decide) ?_)
    rw [← hP]
    unfold wp_X11_label
    refine m_isClaim hw H (fun c hc ec => absurd ⟨c, hc, ec⟩ q) (fun _ => wt2 rfl ?_)
    exact m_refused rx1 (by decide) (hq _ _ _ _ _ _ _ _ _ _ _ _ _ _ _ _ _ _ _ (hR.up 1))
theorem sim_turn {sz : Int32} {hr : Int32} {md : Int32} {ca : Int64} {fi : Int64} {vo : Int64} {at_ : Int64} {su : Int64} {gw : Nat → Int32} {cg_refusals : Nat → Int32} {mg_refusals : Nat → Int32} {cs_strife_hits : Int64} {cs_strife_leads : Int64} {cs_strife_defeats : Int64} {cs_strife_defeaters : Int64} {cs_settled_in : Int32} {cs_settled_out : Int32} {cs_settled_length : Int32} {cs_settled_order : Int64} {mg_hit : Nat → Int32} {mg_lead : Nat → Int32} {mg_defeat : Nat → Int32} {mg_defeater : Nat → Int32} {ms_ins : Int32} {ms_outs : Int32} {mg_order : Nat → Int32} {ms_ordered : Int32} {x1 : Int32} (hH : HR sz hr md ca fi vo at_ su gw) (hR : rfE cg_refusals mg_refusals) {Q : Int32 → Int32 → Int64 → Int64 → Int64 → Int64 → Int32 → Int32 → Int32 → Int64 → (Nat → Int32) → (Nat → Int32) → (Nat → Int32) → (Nat → Int32) → (Nat → Int32) → (Nat → Int32) → Int32 → Int32 → (Nat → Int32) → Int32 → Prop} (hq : ∀ r cs_strife_hits' cs_strife_leads' cs_strife_defeats' cs_strife_defeaters' cs_settled_in' cs_settled_out' cs_settled_length' cs_settled_order' cg_refusals' mg_refusals' mg_hit' mg_lead' mg_defeat' mg_defeater' ms_ins' ms_outs' mg_order' ms_ordered', rfE cg_refusals' mg_refusals' → Q r r cs_strife_hits' cs_strife_leads' cs_strife_defeats' cs_strife_defeaters' cs_settled_in' cs_settled_out' cs_settled_length' cs_settled_order' cg_refusals' mg_refusals' mg_hit' mg_lead' mg_defeat' mg_defeater' ms_ins' ms_outs' mg_order' ms_ordered') : wp_X10_turn (fun r cs_strife_hits' cs_strife_leads' cs_strife_defeats' cs_strife_defeaters' cs_settled_in' cs_settled_out' cs_settled_length' cs_settled_order' cg_refusals' => wp_X11_turn (fun r2 mg_refusals' mg_hit' mg_lead' mg_defeat' mg_defeater' ms_ins' ms_outs' mg_order' ms_ordered' => Q r r2 cs_strife_hits' cs_strife_leads' cs_strife_defeats' cs_strife_defeaters' cs_settled_in' cs_settled_out' cs_settled_length' cs_settled_order' cg_refusals' mg_refusals' mg_hit' mg_lead' mg_defeat' mg_defeater' ms_ins' ms_outs' mg_order' ms_ordered') gw mg_refusals mg_hit mg_lead mg_defeat mg_defeater ms_ins ms_outs mg_order ms_ordered x1) sz hr md ca fi at_ su cs_strife_hits cs_strife_leads cs_strife_defeats cs_strife_defeaters cs_settled_in cs_settled_out cs_settled_length cs_settled_order cg_refusals x1 := by
  generalize hP : (fun r cs_strife_hits' cs_strife_leads' cs_strife_defeats' cs_strife_defeaters' cs_settled_in' cs_settled_out' cs_settled_length' cs_settled_order' cg_refusals' => wp_X11_turn (fun r2 mg_refusals' mg_hit' mg_lead' mg_defeat' mg_defeater' ms_ins' ms_outs' mg_order' ms_ordered' => Q r r2 cs_strife_hits' cs_strife_leads' cs_strife_defeats' cs_strife_defeaters' cs_settled_in' cs_settled_out' cs_settled_length' cs_settled_order' cg_refusals' mg_refusals' mg_hit' mg_lead' mg_defeat' mg_defeater' ms_ins' ms_outs' mg_order' ms_ordered') gw mg_refusals mg_hit mg_lead mg_defeat mg_defeater ms_ins ms_outs mg_order ms_ordered x1) = P
  obtain ⟨h, H, e, hw⟩ := hH
  have h8 := H.1
  unfold wp_X10_turn
  unfold wp_X11_turn at hP
  have tn : tN h ≤ 8 := Nat.le_trans tN_le h8
  rcases m1_cases x1 with ⟨z1, z2, z3⟩ | rfl | ⟨z1, z2, z3, z4, z5⟩
  · refine wf z2 (s_refuse rx4 (by decide) (by decide) ?_)
    rw [← hP]
    exact wf z2 (m_refused rx4 (by decide) (hq _ _ _ _ _ _ _ _ _ _ _ _ _ _ _ _ _ _ _ (hR.up 4)))
  · refine wt (by decide +kernel) (s_settle H e (fun c1 c2 c3 c4 => wt2 rfl ?_))
    rw [← hP]
    refine wt (by decide +kernel) (m_turnsAll hw H (fun _ _ _ _ _ _ _ _ _ _ => wf (show ¬ (0 : Int32) ≤ -1 by decide +kernel) ?_))
    exact hq _ _ _ _ _ _ _ _ _ _ _ _ _ _ _ _ _ _ _ hR
  · refine wt z1 (s_settle H e (fun c1 c2 c3 c4 => wf2 z3 ?_))
    refine s_tAt H (fun c hc ec => ?_) (fun q => ?_)
    · subst ec
      rw [← hP]
      refine wt z1 (m_turnsAll hw H (fun _ _ _ _ _ _ _ _ _ i5 => wt z4 (wf (nI_ge hc (by omega)) ⟨vp_in_nI (by omega) (by decide), ?_⟩)))
      rw [i5.rd hc (by omega)]
      exact hq _ _ _ _ _ _ _ _ _ _ _ _ _ _ _ _ _ _ _ hR
    · rw [← hP]
      refine wt z1 (m_turnsAll hw H (fun _ _ _ _ _ _ _ _ _ i5 => wt z4 (wt ?_ ?_)))
      · rcases pk_ix x1 (show tN h < 2 ^ 31 by omega) with k | k | ⟨j, hj, k⟩
        · exact absurd k z5
        · exact k
        · exact absurd ⟨j, hj, k⟩ q
      · exact hq _ _ _ _ _ _ _ _ _ _ _ _ _ _ _ _ _ _ _ hR
