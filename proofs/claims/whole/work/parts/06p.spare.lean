/-! spare -/
def spP (h : Nat → Nat) (g : Nat) : Bool := decide (dif g (h 40) = 0) && decide (0 < cnt (staB (wo h g)) 256)
def lstP (p : Nat → Bool) (r : Nat) : Prop := r < 256 ∧ p r = true ∧ ∀ g, g < 256 → p g = true → (pc r 8 < pc g 8 ∨ (pc r 8 = pc g 8 ∧ r ≤ g))
theorem lstP_un {p : Nat → Bool} {r t : Nat} (a : lstP p r) (b : lstP p t) : r = t := by
  have x := a.2.2 t b.1 b.2.1
  have y := b.2.2 r a.1 a.2.1
  omega
theorem sp_all {h : Nat → Nat} (H : hv h) : spP h (h 40) = true := by
  have l4 := H.heard
  have e0 : dif (h 40) (h 40) = 0 := (dif_0 l4).mpr (fun i _ q => q)
  have z : staB (wo h (h 40)) 0 = true := by
    unfold staB btn
    have e1 : wo h (h 40) 40 = 0 := by unfold wo; rw [upN_s]; exact e0
    rw [rch_z, e1]
    decide
  unfold spP
  rw [decide_eq_true e0]
  cases e : cnt (staB (wo h (h 40))) 256 with
  | zero => rw [cnt_0.mp e 0 (by omega)] at z; cases z
  | succ k => rfl
section SPA
variable {h : Nat → Nat}
theorem s_spared (H : hv h) {sz hr md : Int32} {ca fi vo at_ su : Int64} (e : HC h sz hr md ca fi vo at_ su) {d1 d2 d3 : Int32} {d4 d5 d6 d7 d8 : Int64} {s1 s2 s3 s4 : Int64} {post : Int32 → Int32 → Int32 → Int32 → Int64 → Int64 → Int64 → Int64 → Int64 → Int64 → Int64 → Int64 → Int64 → Prop} (hp : ∀ r, lstP (spP h) r → ∀ d1 d2 d3 d4 d5 d6 d7 d8 s1 s2 s3 s4, post (nI r) d1 d2 d3 d4 d5 d6 d7 d8 s1 s2 s3 s4) : wp_X8_spared post d1 d2 d3 d4 d5 d6 d7 d8 s1 s2 s3 s4 sz hr md ca fi vo at_ su := by
  have l4 := H.heard
  have he := e
  obtain ⟨rfl, rfl, rfl, rfl, rfl, rfl, rfl, rfl⟩ := e
  unfold wp_X8_spared
  refine lo12 (fun n m d1 d2 d3 d4 d5 d6 d7 d8 s1 s2 s3 s4 => wp_X8_spared_2 post (nI (h 42)) (nI (h 40)) (nI (h 41)) (pL (fun c => h c)) (pL (fun c => h (8 + c))) (pL (fun c => h (16 + c))) (pL (fun c => h (24 + c))) (pL (fun c => h (32 + c))) n (nI m) d1 d2 d3 d4 d5 d6 d7 d8 s1 s2 s3 s4) (fun m d1 d2 d3 d4 d5 d6 d7 d8 s1 s2 s3 s4 => ∀ g, g < 256 → spP h g = true → m ≤ pc g 8) 9 _ _ _ _ _ _ _ _ _ _ _ _ (fun _ _ _ => Nat.zero_le _) ?_ ?_
  · rintro n d1 d2 d3 d4 d5 d6 d7 d8 s1 s2 s3 s4 i1
    have := i1 (h 40) l4 (sp_all H)
    have := pc_le (h 40) 8
    omega
  · rintro n m d1 d2 d3 d4 d5 d6 d7 d8 s1 s2 s3 s4 hm i1 ih
    show wp_X8_spared_2 _ _ _ _ _ _ _ _ _ _ _ _ _ _ _ _ _ _ _ _ _ _ _
    unfold wp_X8_spared_2
    refine wf (nI_nlt (by omega) (by omega)) ?_
    refine lo12 (fun k g d1 d2 d3 d4 d5 d6 d7 d8 s1 s2 s3 s4 => wp_X8_spared_10 post (nI (h 42)) (nI (h 40)) (nI (h 41)) (pL (fun c => h c)) (pL (fun c => h (8 + c))) (pL (fun c => h (16 + c))) (pL (fun c => h (24 + c))) (pL (fun c => h (32 + c))) (wp_X8_spared_2 post (nI (h 42)) (nI (h 40)) (nI (h 41)) (pL (fun c => h c)) (pL (fun c => h (8 + c))) (pL (fun c => h (16 + c))) (pL (fun c => h (24 + c))) (pL (fun c => h (32 + c))) n) k (nI m) (nI g) d1 d2 d3 d4 d5 d6 d7 d8 s1 s2 s3 s4) (fun g d1 d2 d3 d4 d5 d6 d7 d8 s1 s2 s3 s4 => ∀ x, x < g → spP h x = true → ¬ pc x 8 = m) 256 _ _ _ _ _ _ _ _ _ _ _ _ (fun x hx => absurd hx (Nat.not_lt_zero x)) ?_ ?_
    · rintro k d1 d2 d3 d4 d5 d6 d7 d8 s1 s2 s3 s4 i2
      show wp_X8_spared_10 _ _ _ _ _ _ _ _ _ _ _ _ _ _ _ _ _ _ _ _ _ _ _ _ _
      unfold wp_X8_spared_10
      refine wt (nI_le (Nat.le_refl _) (by decide)) ?_
      rw [nS m]
      exact ih _ _ _ _ _ _ _ _ _ _ _ _ (fun g hg q => by have := i1 g hg q; have := i2 g hg q; omega)
    · rintro k g d1 d2 d3 d4 d5 d6 d7 d8 s1 s2 s3 s4 hg i2 ih2
      show wp_X8_spared_10 _ _ _ _ _ _ _ _ _ _ _ _ _ _ _ _ _ _ _ _ _ _ _ _ _
      unfold wp_X8_spared_10
      refine wf (nI_ge hg (by decide)) ?_
      rw [nS g]
      have skip : (spP h g = true → ¬ pc g 8 = m) → ∀ d1 d2 d3 d4 d5 d6 d7 d8 s1 s2 s3 s4, wp_X8_spared_10 post (nI (h 42)) (nI (h 40)) (nI (h 41)) (pL (fun c => h c)) (pL (fun c => h (8 + c))) (pL (fun c => h (16 + c))) (pL (fun c => h (24 + c))) (pL (fun c => h (32 + c))) (wp_X8_spared_2 post (nI (h 42)) (nI (h 40)) (nI (h 41)) (pL (fun c => h c)) (pL (fun c => h (8 + c))) (pL (fun c => h (16 + c))) (pL (fun c => h (24 + c))) (pL (fun c => h (32 + c))) n) k (nI m) (nI (g + 1)) d1 d2 d3 d4 d5 d6 d7 d8 s1 s2 s3 s4 := fun z d1 d2 d3 d4 d5 d6 d7 d8 s1 s2 s3 s4 => ih2 _ _ _ _ _ _ _ _ _ _ _ _ (fun x hx q => by
        by_cases ex : x = g
        · subst ex; exact z q
        · exact i2 x (by omega) q)
      refine s_bitCount hg ?_
      have := pc_le g 8
      refine wc2 (nI_eq (by omega) (by omega)) (fun q => ?_) (fun q => skip (fun _ => q) _ _ _ _ _ _ _ _ _ _ _ _)
      rw [nx_dif hg]
      refine wc2 (nI_eq0 (by have := dif_lt hg (h 40); omega)) (fun q2 => ?_) (fun q2 => skip (fun z => ?_) _ _ _ _ _ _ _ _ _ _ _ _)
      · refine s_draftWithout H he (fun d1 d2 d3 d4 d5 d6 d7 d8 e2 => ?_)
        refine s_draftStable (wo_ok H g) e2 ?_
        intro _ _ _ _
        have lc := cnt_le (staB (wo h g)) 256
        refine wc (nI_le0 (by omega)) (fun q3 => skip (fun z => ?_) _ _ _ _ _ _ _ _ _ _ _ _) (fun q3 => hp g ⟨hg, ?_, fun x hx z => ?_⟩ _ _ _ _ _ _ _ _ _ _ _ _)
        · unfold spP at z
          rw [q3] at z
          simp at z
        · unfold spP
          rw [decide_eq_true q2, decide_eq_true (Nat.pos_of_ne_zero q3)]; rfl
        · have a1 := i1 x hx z
          by_cases lx : x < g
          · have a2 := i2 x lx z; omega
          · omega
      · unfold spP at z
        rw [decide_eq_false q2] at z
        cases z
end SPA
section SPR
variable {h : Nat → Nat}
theorem m_hasStable {gw : Nat → Int32} (hw : ag 43 gw h) (H : hv h) {g1 g2 g3 g4 : Nat → Int32} {post : Int32 → (Nat → Int32) → (Nat → Int32) → (Nat → Int32) → (Nat → Int32) → Prop} (hp : ∀ g1 g2 g3 g4, post (zI (decide (0 < cnt (staB h) 256))) g1 g2 g3 g4) : wp_X11_hasStable post gw g1 g2 g3 g4 := by
  unfold wp_X11_hasStable
  refine m_reckons hw H (fun g1 g2 g3 g4 i1 i2 i3 i4 => ?_)
  refine loop_0 (fun n i (_ : Unit) => wp_X11_hasStable_6 post gw n (nI i) g1 g2 g3 g4) (fun i _ => ∀ j, j < i → staB h j = false) 256 () (fun j hj => absurd hj (Nat.not_lt_zero j)) ?_ ?_
  · rintro n _ q
    show wp_X11_hasStable_6 _ _ _ _ _ _ _ _
    unfold wp_X11_hasStable_6
    refine wt (nI_le (Nat.le_refl _) (by decide)) ?_
    have := hp g1 g2 g3 g4
    rw [cnt_0.mpr q] at this
    exact this
  · rintro n i _ hi q ih
    show wp_X11_hasStable_6 _ _ _ _ _ _ _ _
    unfold wp_X11_hasStable_6
    refine wf (nI_ge hi (by decide)) ?_
    rw [nS i]
    refine m_isSta hw H i3 hi ?_
    refine zc (fun z => ih () (fun j hj => ?_)) (fun z => ?_)
    · by_cases e : j = i
      · subst e; exact z
      · exact q j (by omega)
    · have := hp g1 g2 g3 g4
      rw [decide_eq_true (show 0 < cnt (staB h) 256 from Nat.pos_of_ne_zero (fun c => by rw [cnt_0.mp c i hi] at z; cases z))] at this
      exact this
def agx (gw : Nat → Int32) (h : Nat → Nat) : Prop := ∀ j, j < 43 → j ≠ 40 → gw j = nI (h j)
theorem agx.set {gw : Nat → Int32} (a : agx gw h) (v : Nat) : ag 43 (upd gw 40 (nI v)) (upN h 40 v) := fun j hj => by
  by_cases e : j = 40
  · subst e; rw [pk_us, upN_s]
  · rw [pk_un e, upN_n _ e]; exact a j hj e
theorem agx.put {gw : Nat → Int32} (a : agx gw h) (x : Int32) : agx (upd gw 40 x) h := fun j hj e => by rw [pk_un e]; exact a j hj e
theorem agx.end {gw : Nat → Int32} (a : agx gw h) : ag 43 (upd gw 40 (nI (h 40))) h := fun j hj => by
  by_cases e : j = 40
  · subst e; rw [pk_us]
  · rw [pk_un e]; exact a j hj e
def lstO (p : Nat → Bool) (i : Nat) (o : Option Nat) : Prop := (o = none → ∀ g, g < i → p g = false) ∧ ∀ r, o = some r → r < i ∧ p r = true ∧ ∀ g, g < i → p g = true → (pc r 8 < pc g 8 ∨ (pc r 8 = pc g 8 ∧ r ≤ g))
theorem m_spare {gw : Nat → Int32} (hw : ag 43 gw h) (H : hv h) {w : Bool} {grf g1 g2 g3 g4 : Nat → Int32} {post : Int32 → (Nat → Int32) → (Nat → Int32) → (Nat → Int32) → (Nat → Int32) → (Nat → Int32) → (Nat → Int32) → Prop} (hp : ∀ r, lstP (spP h) r → ∀ gw, ag 43 gw h → ∀ g1 g2 g3 g4, post (nI (if w then r else pc r 8)) gw grf g1 g2 g3 g4) : wp_X11_spare post gw grf g1 g2 g3 g4 (zI w) := by
  have l4 := H.heard
  unfold wp_X11_spare
  refine m_inZ (wf2 n1_0 ⟨vp_in_nI (by decide) (by decide), ?_⟩)
  rw [nI_clamp (by decide), hw 40 (by decide)]
  refine lo6 (fun n i v gw g1 g2 g3 g4 => wp_X11_spare_30 post (zI w) n (nI (h 40)) v (nI i) gw grf g1 g2 g3 g4) (fun i v gw _ _ _ _ => agx gw h ∧ ∃ o, v = enc o ∧ lstO (spP h) i o) 256 _ _ _ _ _ _ ⟨fun j hj _ => hw j hj, none, rfl, fun _ g hg => absurd hg (Nat.not_lt_zero g), fun r q => by cases q⟩ ?_ ?_
  · rintro n v gw g1 g2 g3 g4 ⟨ax, o, rfl, o1, o2⟩
    show wp_X11_spare_30 _ _ _ _ _ _ _ _ _ _ _ _
    unfold wp_X11_spare_30
    refine wt (nI_le (Nat.le_refl _) (by decide)) ⟨vp_in_nI (by decide) (by decide), ?_⟩
    rw [nI_clamp (by decide)]
    cases o with
    | none =>
      have := o1 rfl (h 40) l4
      rw [sp_all H] at this
      cases this
    | some r =>
      have q := o2 r rfl
      have r2 := hp r q
      refine zc2 (fun z => ?_) (fun z => ?_)
      · refine m_ones (s := r) (by omega) ?_
        rw [z] at r2
        exact r2 _ ax.end _ _ _ _
      · rw [z] at r2
        exact r2 _ ax.end _ _ _ _
  · rintro n i v gw g1 g2 g3 g4 hi ⟨ax, o, rfl, o1, o2⟩ ih
    show wp_X11_spare_30 _ _ _ _ _ _ _ _ _ _ _ _
    unfold wp_X11_spare_30 wp_X11_spare_63
    refine wf (nI_ge hi (by decide)) ?_
    rw [nS i, nx_dif hi, nI_clamp (by decide), nx_dif l4]
    have skip : (∀ r, o = some r → spP h i = true → pc r 8 ≤ pc i 8) → (o = none → spP h i = false) → ∀ gw g1 g2 g3 g4, agx gw h → wp_X11_spare_30 post (zI w) n (nI (h 40)) (enc o) (nI (i + 1)) gw grf g1 g2 g3 g4 := fun k1 k2 gw g1 g2 g3 g4 ax => ih _ _ _ _ _ _ ⟨ax, o, rfl, fun q g hg => by
        by_cases e : g = i
        · subst e; exact k2 q
        · exact o1 q g (by omega), fun r q => by
        have y := o2 r q
        refine ⟨by omega, y.2.1, fun g hg gz => ?_⟩
        by_cases e : g = i
        · subst e; have := k1 r q gz; omega
        · exact y.2.2 g (by omega) gz⟩
    have take : (∀ r, o = some r → pc i 8 < pc r 8) → dif i (h 40) = 0 → vp_in (nI 40) 43 ∧ wp_X11_hasStable (fun (r77 : Int32) (g1 g2 g3 g4 : Nat → Int32) => ((r77 = 0 → wp_X11_spare_30 post (zI w) n (nI (h 40)) (enc o) (nI (i + 1)) (upd gw 40 (nI (dif (h 40) i))) grf g1 g2 g3 g4) ∧ (¬ r77 = 0 → wp_X11_spare_30 post (zI w) n (nI (h 40)) (nI i) (nI (i + 1)) (upd gw 40 (nI (dif (h 40) i))) grf g1 g2 g3 g4))) (upd gw 40 (nI (dif (h 40) i))) g1 g2 g3 g4 := fun k1 k2 => by
      refine ⟨vp_in_nI (by decide) (by decide), ?_⟩
      refine m_hasStable (h := wo h i) (ax.set _) (wo_ok H i) (fun g1 g2 g3 g4 => ?_)
      refine zc (fun z => skip (fun r q s => ?_) (fun q => ?_) _ _ _ _ _ (ax.put _)) (fun z => ?_)
      · unfold spP at s; rw [z, Bool.and_false] at s; cases s
      · unfold spP; rw [z, Bool.and_false]
      · have sp : spP h i = true := by unfold spP; rw [z, decide_eq_true k2]; rfl
        refine ih _ _ _ _ _ _ ⟨ax.put _, some i, rfl, fun q => (by cases q), fun r q => ?_⟩
        cases q
        refine ⟨Nat.lt_succ_self _, sp, fun g hg gz => ?_⟩
        by_cases e : g = i
        · subst e; exact Or.inr ⟨rfl, Nat.le_refl _⟩
        · cases o with
          | none => rw [o1 rfl g (by omega)] at gz; cases gz
          | some t =>
            have a1 := k1 t rfl
            have a2 := (o2 t rfl).2.2 g (by omega) gz
            omega
    have hlt : ∀ f, o = some f → f < 256 := fun f q => by have := (o2 f q).1; omega
    refine wc2 (nI_eq0 (by have := dif_lt hi (h 40); omega)) (fun q => ?_) (fun q => skip (fun r _ s => ?_) (fun _ => ?_) _ _ _ _ _ ax)
    · cases o with
      | none => exact wt (by decide +kernel) (take (fun r q => by cases q) q)
      | some r =>
        have l := hlt r rfl
        refine wf (nI_pos (show r < 2 ^ 31 by omega)) ?_
        refine m_ones (by omega) (m_ones (s := r) (by omega) ?_)
        have := pc_le r 8
        have := pc_le i 8
        refine wc (nI_leI (by omega) (by omega)) (fun k => skip (fun t q _ => by cases q; exact k) (fun q => by cases q) _ _ _ _ _ ax) (fun k => take (fun t q => by cases q; omega) q)
    · unfold spP at s; rw [decide_eq_false q] at s; cases s
    · unfold spP; rw [decide_eq_false q]; rfl
end SPR
