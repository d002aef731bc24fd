/-! the reference goes through the letters -/
theorem ax_dg {s l : Nat} (h1 : 1 ≤ s) (h3 : s ≤ 3) : ax s l = if dgB l then s + 1 else 8 := by
  have : s = 1 ∨ s = 2 ∨ s = 3 := by omega
  rcases this with rfl | rfl | rfl <;> rfl
theorem ax_0 (l : Nat) : ax 0 l = if l = 42 then 1 else if l = 109 then 3 else if nmB l then 5 else 8 := rfl
theorem ax_4 (l : Nat) : ax 4 l = if l = 59 then 0 else 8 := rfl
theorem ax_5 (l : Nat) : ax 5 l = if l = 58 then 2 else if l = 33 then 4 else if lkB l then 6 else 8 := rfl
theorem ax_6 (l : Nat) : ax 6 l = if nmB l then 7 else 8 := rfl
theorem ax_7 (l : Nat) : ax 7 l = if l = 59 then 0 else if lkB l then 6 else 8 := rfl
theorem dg_59 {l : Nat} (h : dgB l = true) : ¬ l = 59 := by have := of_decide_eq_true h; omega
theorem nm_59 {l : Nat} (h : nmB l = true) : ¬ l = 59 := by have := of_decide_eq_true h; omega
theorem lk_59 {l : Nat} (h : lkB l = true) : ¬ l = 59 := by have := of_decide_eq_true h; omega
theorem lk_ne {l : Nat} (h : lkB l = true) : ¬ l = 58 ∧ ¬ l = 33 := by have := of_decide_eq_true h; omega
section THR
variable {L : Nat → Nat} {n : Nat} {g : Nat → Int32} {post : Int32 → Int32 → Prop}
theorem m_takesDigits (hn : n ≤ 96) (hg : ag n g L) (hL : ∀ k, k < n → L k < 256) {m r k : Nat} {b : Bool} (hk : k ≤ 3) (h : RS L n m r b (4 - k)) (hp : ∀ r b, RS L n m r b 4 → post (nI r) (zI b)) : wp_X11_takesDigits post g (nI n) (nI r) (zI b) (nI k) := by
  unfold wp_X11_takesDigits
  refine lo2 (fun N i rd wl => wp_X11_takesDigits_2 post g (nI n) (nI k) N (nI i) rd wl) (fun i rd wl => ∃ r b, (rd = nI r ∧ wl = zI b) ∧ RS L n m r b (4 - k + i)) k _ _ ⟨r, b, ⟨rfl, rfl⟩, h⟩ ?_ ?_
  · rintro N rd wl ⟨r, b, ⟨rfl, rfl⟩, h⟩
    show wp_X11_takesDigits_2 _ _ _ _ _ _ _ _
    unfold wp_X11_takesDigits_2
    refine wt (nI_le (Nat.le_refl _) (by omega)) (hp r b ?_)
    rw [show 4 - k + k = 4 by omega] at h
    exact h
  · rintro N i rd wl hi ⟨r, b, ⟨rfl, rfl⟩, h⟩ ih
    show wp_X11_takesDigits_2 _ _ _ _ _ _ _ _
    unfold wp_X11_takesDigits_2
    refine wf (nI_ge hi (by omega)) ?_
    have hr := h.1
    rw [nS i, lx_48, lx_57]
    refine m_letterAt hn hg (by omega) ?_
    show wp_X11_in _ (ltr L n r).toInt64 _ _
    refine m_inL hL (by decide) (by decide) (f := dgB) (fun l => rfl) ?_
    refine m_takes ?_
    refine ih _ _ ⟨_, _, ⟨rfl, rfl⟩, h.go (fun c => ?_) (fun c => ⟨fun lt => ?_, fun _ q => by omega⟩)⟩
    · have y := lB_t c
      refine ⟨y.1, ?_, by omega, ?_⟩
      · rw [ax_dg (by omega) (by omega), if_pos y.2]; omega
      · rw [if_neg (dg_59 y.2)]; rfl
    · rw [ax_dg (by omega) (by omega), lB_f c lt]; rfl
theorem m_takesLinks (hn : n ≤ 96) (hg : ag n g L) (hL : ∀ k, k < n → L k < 256) {m r : Nat} {b : Bool} (h : RS L n m r b 5) (hq : b = true → r < n → ¬ L r = 58 ∧ ¬ L r = 33) (hp : ∀ r b, RS L n m r b 7 → (b = true → r < n → lkB (L r) = false) → post (nI r) (zI b)) : wp_X11_takesLinks post g (nI n) (nI r) (zI b) := by
  unfold wp_X11_takesLinks
  have hr := h.1
  refine m_letterAt hn hg (by omega) ?_
  show wp_X11_isLink _ (ltr L n r)
  refine m_isLink hL (m_takes ?_)
  have h2 : RS L n m (r + (b && lB lkB L n r).toNat) (b && lB lkB L n r) 6 := by
    cases b
    · exact h.f
    · refine h.go (fun c => ?_) (fun c => ⟨fun lt => ?_, fun _ q => by omega⟩)
      · have y := lB_t c
        have z := hq rfl y.1
        refine ⟨y.1, ?_, by omega, ?_⟩
        · rw [ax_5, if_neg z.1, if_neg z.2, if_pos y.2]
        · rw [if_neg (lk_59 y.2)]; rfl
      · have z := hq rfl lt
        rw [ax_5, if_neg z.1, if_neg z.2, lB_f c lt]; rfl
  generalize r + (b && lB lkB L n r).toNat = r2 at h2 ⊢
  generalize (b && lB lkB L n r) = b2 at h2 ⊢
  have hr2 := h2.1
  have nm : ∀ r b, RS L n m r b 6 → RS L n m (r + (b && lB nmB L n r).toNat) (b && lB nmB L n r) 7 := fun r b h => h.go (fun c => by
      have y := lB_t c
      refine ⟨y.1, ?_, by omega, ?_⟩
      · rw [ax_6, if_pos y.2]
      · rw [if_neg (nm_59 y.2)]; rfl) (fun c => ⟨fun lt => by rw [ax_6, lB_f c lt]; rfl, fun _ q => by omega⟩)
  refine m_letterAt hn hg (by omega) ?_
  show wp_X11_isNamed _ (ltr L n r2)
  refine m_isNamed hL (m_takes ?_)
  refine loop_m (fun N (s : Nat × Bool) => wp_X11_takesLinks_30 post g (nI n) N (nI s.1) (zI s.2)) (fun s => RS L n m s.1 s.2 7) (fun s => if s.2 then n + 1 - s.1 else 0) ?_ (_, _) (nm r2 b2 h2)
  rintro N ⟨r, b⟩ h ih
  show wp_X11_takesLinks_30 _ _ _ _ _ _
  unfold wp_X11_takesLinks_30
  have h' : RS L n m r b 7 := h
  have hr := h'.1
  refine zc (fun z => ?_) (fun z => ?_)
  · exact hp r b h' (fun q => by rw [show b = false from z] at q; cases q)
  · have zb : b = true := z
    subst zb
    refine m_letterAt hn hg (show r < 2 ^ 31 by omega) ?_
    show wp_X11_isLink _ (ltr L n r)
    refine m_isLink hL ?_
    refine zc (fun y => hp r true h' (fun _ lt => lB_f y lt)) (fun y => ?_)
    have y2 := lB_t y
    have h3 : RS L n m (r + 1) true 6 := by
      have t := h'.go (c := true) (s' := 6) (m' := m) (fun _ => ⟨y2.1, by rw [ax_7, if_neg (lk_59 y2.2), if_pos y2.2], by omega, by rw [if_neg (lk_59 y2.2)]; rfl⟩) (fun q => by cases q)
      exact t
    rw [nS r]
    refine m_letterAt hn hg (show r + 1 < 2 ^ 31 by omega) ?_
    show wp_X11_isNamed _ (ltr L n (r + 1))
    refine m_isNamed hL (m_takes ?_)
    have h4 := nm (r + 1) true h3
    refine ih (_, _) h4 ?_
    show (if (true && lB nmB L n (r + 1)) = true then n + 1 - (r + 1 + (true && lB nmB L n (r + 1)).toNat) else 0) < (if true = true then n + 1 - r else 0)
    rw [if_pos rfl]
    split <;> omega
theorem m_gt143 (hn : n ≤ 96) (hg : ag n g L) (hL : ∀ k, k < n → L k < 256) {m r s : Nat} {b : Bool} (h : RS L n m r b s) (hs : ¬ s = 0) (h0 : b = true → r < n → L r = 59 → ax s (L r) = 0) (h8 : b = true → r < n → ¬ L r = 59 → ax s (L r) = 8) (hp : ∀ r b, RS L n (m + 1) r b 0 → post (nI r) (zI b)) : wp_X11_goesThrough_143 post g (nI n) (nI r) (zI b) := by
  unfold wp_X11_goesThrough_143
  have hr := h.1
  refine m_letterAt hn hg (by omega) ?_
  show (¬ ltr L n r = nI 59 → _) ∧ (ltr L n r = nI 59 → _)
  have A : (r < n → L r = 59 → wp_X11_takes (fun a b => post a b) (nI r) (zI b) (nI 1)) := fun lt e => by
    refine m_takes (c := true) ?_
    refine hp _ _ ?_
    cases b
    · exact h.f
    · exact h.go (fun _ => ⟨lt, h0 rfl lt e, by omega, by rw [if_pos e]⟩) (fun q => by cases q)
  have B : (r < n → ¬ L r = 59) → wp_X11_takes (fun a b => post a b) (nI r) (zI b) (nI 0) := fun e => by
    refine m_takes (c := false) ?_
    refine hp _ _ ?_
    cases b
    · exact h.f
    · exact h.go (fun q => by cases q) (fun _ => ⟨fun lt => h8 rfl lt (e lt), fun _ q => hs q.1⟩)
  have t := m_isL (L := L) (n := n) (k := r) (c := 59) hL (by decide) A B
  exact ⟨t.2, t.1⟩
theorem m_goesThrough (hn : n ≤ 96) (hg : ag n g L) (hL : ∀ k, k < n → L k < 256) {m r : Nat} (h : RS L n m r true 0) (hr0 : r < n ∨ n = 0) (hp : ∀ r b, RS L n (m + 1) r b 0 → post (nI r) (zI b)) : wp_X11_goesThrough post g (nI n) (nI r) (nI 1) := by
  unfold wp_X11_goesThrough
  have hr := h.1
  refine m_letterAt hn hg (by omega) ?_
  have T35 : ∀ c : Bool, c = (decide (r < n) && decide (L r = 42 ∨ (97 ≤ L r ∧ L r ≤ 122))) → wp_X11_goesThrough_35 post g (nI n) (ltr L n r) (nI r) (nI 1) (zI c) := by
    intro c hc
    unfold wp_X11_goesThrough_35
    refine m_takes (b := true) ?_
    have c143 : ∀ r b, RS L n m r b 4 → wp_X11_goesThrough_143 post g (nI n) (nI r) (zI b) := fun r b h => m_gt143 hn hg hL h (by decide) (fun _ _ e => by rw [ax_4, if_pos e]) (fun _ _ e => by rw [ax_4, if_neg e]) hp
    have links : ∀ r b, RS L n m r b 5 → (b = true → r < n → ¬ L r = 58 ∧ ¬ L r = 33) → wp_X11_takesLinks (fun a b => wp_X11_goesThrough_143 post g (nI n) a b) g (nI n) (nI r) (zI b) := fun r b h hq => m_takesLinks hn hg hL h hq (fun r b h hl => m_gt143 hn hg hL h (by decide) (fun _ _ e => by rw [ax_7, if_pos e]) (fun e1 e2 e => by rw [ax_7, if_neg e, hl e1 e2]; rfl) hp)
    cases c
    · have bad : bdp L n = some r := by
        refine bd_at (h.2.1 rfl) (fun lt => ?_) (fun e q => by omega)
        rw [decide_eq_true lt, Bool.true_and] at hc
        have := of_decide_eq_false hc.symm
        rw [ax_0, if_neg (by omega), if_neg (by omega), show nmB (L r) = false from decide_eq_false (by omega)]
        rfl
      have nl : ∀ c, (c = 42 ∨ c = 109) → ¬ ltr L n r = nI c := fun c hc2 e => by
        unfold ltr at e
        by_cases lt : r < n
        · rw [if_pos lt] at e
          have := hL r lt
          have e2 := (nI_eq (by omega) (by omega)).mp e
          rw [decide_eq_true lt, Bool.true_and] at hc
          have := of_decide_eq_false hc.symm
          omega
        · rw [if_neg lt] at e
          exact m1_N (by omega) e
      have h2 : RS L n m r false 5 := ⟨hr, fun q => (by cases q), fun _ => bad⟩
      refine wf (nl 42 (Or.inl rfl)) (wf2 (nl 109 (Or.inr rfl)) ?_)
      refine wt rfl ?_
      unfold wp_X11_goesThrough_106
      refine wt rfl ?_
      exact links r false h2 (fun q => by cases q)
    · have hc1 : r < n ∧ (L r = 42 ∨ (97 ≤ L r ∧ L r ≤ 122)) := by
        have := hc.symm
        rw [Bool.and_eq_true] at this
        exact ⟨of_decide_eq_true this.1, of_decide_eq_true this.2⟩
      have el : ltr L n r = nI (L r) := if_pos hc1.1
      have l8 := hL r hc1.1
      rw [el]
      show (nI (L r) = nI 42 → wp_X11_goesThrough_50 post g (nI n) (nI (L r)) (nI (r + 1)) (zI true)) ∧ (¬ nI (L r) = nI 42 → ((¬ nI (L r) = nI 109 → ((zI true = 0 → wp_X11_goesThrough_106 post g (nI n) (nI (r + 1)) (zI true)) ∧ (¬ zI true = 0 → wp_X11_letterAt (fun (r80 : Int32) => ((¬ r80 = nI 58 → wp_X11_goesThrough_106 post g (nI n) (nI (r + 1)) (zI true)) ∧ (r80 = nI 58 → wp_X11_takesDigits (fun a b => wp_X11_goesThrough_143 post g (nI n) a b) g (nI n) (nI (r + 1) + nI 1) (zI true) (nI 2)))) g (nI n) (nI (r + 1))))) ∧ (nI (L r) = nI 109 → wp_X11_goesThrough_50 post g (nI n) (nI (L r)) (nI (r + 1)) (zI true))))
      have go : ∀ s', ax 0 (L r) = s' → ¬ s' = 8 → RS L n m (r + 1) true s' := fun s' e1 e2 => h.go (c := true) (fun _ => ⟨hc1.1, e1, e2, by rw [if_neg (by omega)]; rfl⟩) (fun q => by cases q)
      refine wc (nI_eq (by omega) (by decide)) (fun e => ?_) (fun e => wc2 (nI_eq (by omega) (by decide)) (fun e2 => ?_) (fun e2 => ?_))
      · unfold wp_X11_goesThrough_50
        refine wt2 (by rw [e]) ?_
        exact m_takesDigits hn hg hL (k := 3) (by decide) (go 1 (by rw [ax_0, if_pos e]) (by decide)) c143
      · unfold wp_X11_goesThrough_50
        refine wf2 (fun q => ?_) ?_
        · have := (nI_eq (by omega) (by decide)).mp q; omega
        · exact m_takesDigits hn hg hL (k := 1) (by decide) (go 3 (by rw [ax_0, if_neg e, if_pos e2]) (by decide)) c143
      · have h5 := go 5 (by rw [ax_0, if_neg e, if_neg e2, show nmB (L r) = true from decide_eq_true (by omega)]; rfl) (by decide)
        have hr5 := h5.1
        refine wf n1_0 ?_
        refine m_letterAt hn hg (by omega) ?_
        show (¬ ltr L n (r + 1) = nI 58 → _) ∧ (ltr L n (r + 1) = nI 58 → _)
        have t := m_isL (L := L) (n := n) (k := r + 1) (c := 58) hL (by decide) (A := wp_X11_takesDigits (fun a b => wp_X11_goesThrough_143 post g (nI n) a b) g (nI n) (nI (r + 1) + nI 1) (zI true) (nI 2)) (B := wp_X11_goesThrough_106 post g (nI n) (nI (r + 1)) (zI true)) (fun lt e => by
          rw [nS (r + 1)]
          refine m_takesDigits hn hg hL (k := 2) (by decide) ?_ c143
          exact h5.go (c := true) (fun _ => ⟨lt, by rw [ax_5, if_pos e], by decide, by rw [if_neg (by omega)]; rfl⟩) (fun q => by cases q)) (fun e => by
          unfold wp_X11_goesThrough_106
          refine wf n1_0 ?_
          refine m_letterAt hn hg (by omega) ?_
          show (¬ ltr L n (r + 1) = nI 33 → _) ∧ (ltr L n (r + 1) = nI 33 → _)
          have t := m_isL (L := L) (n := n) (k := r + 1) (c := 33) hL (by decide) (A := wp_X11_goesThrough_143 post g (nI n) (nI (r + 1) + nI 1) (zI true)) (B := wp_X11_takesLinks (fun a b => wp_X11_goesThrough_143 post g (nI n) a b) g (nI n) (nI (r + 1)) (zI true)) (fun lt e3 => by
            rw [nS (r + 1)]
            refine c143 (r + 1 + 1) true ?_
            exact h5.go (c := true) (fun _ => ⟨lt, by rw [ax_5, if_neg (e lt), if_pos e3], by decide, by rw [if_neg (by omega)]; rfl⟩) (fun q => by cases q)) (fun e3 => links (r + 1) true h5 (fun _ lt => ⟨e lt, e3 lt⟩))
          exact ⟨t.2, t.1⟩)
        exact ⟨t.2, t.1⟩
  rw [lx_97, lx_122]
  show (ltr L n r = nI 42 → wp_X11_goesThrough_35 post g (nI n) (ltr L n r) (nI r) (nI 1) (nI 1)) ∧ (¬ ltr L n r = nI 42 → wp_X11_in (fun (r24 : Int32) => ((r24 = 0 → wp_X11_goesThrough_35 post g (nI n) (ltr L n r) (nI r) (nI 1) (nI 0)) ∧ (¬ r24 = 0 → wp_X11_goesThrough_35 post g (nI n) (ltr L n r) (nI r) (nI 1) (nI 1)))) (ltr L n r).toInt64 (lN 97) (lN 122))
  refine m_isL (L := L) (n := n) (k := r) (c := 42) hL (by decide) (fun lt e => T35 true (by rw [decide_eq_true lt, decide_eq_true (by omega)]; rfl)) (fun e => ?_)
  refine m_inL hL (by decide) (by decide) (f := fun l => decide (97 ≤ l ∧ l ≤ 122)) (fun l => rfl) ?_
  refine zc (fun z => T35 false ?_) (fun z => T35 true ?_)
  · by_cases lt : r < n
    · have := of_decide_eq_false (lB_f z lt)
      have := e lt
      rw [decide_eq_false (show ¬ (L r = 42 ∨ (97 ≤ L r ∧ L r ≤ 122)) by omega), Bool.and_false]
    · rw [decide_eq_false lt]; rfl
  · have y := lB_t z
    have := of_decide_eq_true y.2
    rw [decide_eq_true y.1, decide_eq_true (by omega)]; rfl
end THR
section RD1
variable {L : Nat → Nat} {n : Nat} {g : Nat → Int32} {post : Int32 → (Nat → Int32) → (Nat → Int32) → Int32 → Int32 → Prop}
theorem m_phase1 (hn : n ≤ 96) (hg : ag n g L) (hL : ∀ k, k < n → L k < 256) {gw gla : Nat → Int32} {rd wl : Int32} (hfail : ∀ r, bdp L n = some r → ∀ rd wl, post (-1000 - nI r) gw gla rd wl) (hok : bdp L n = none → ∀ gla, (∀ j, j < 43 → gla j = gw j) → ∀ rd, ∃ n66, wp_X11_readsAll_66 post g (nI n) n66 (nI (cn L n)) (nI 0) gw gla rd (nI 1)) : wp_X11_readsAll post gw gla g (nI n) rd wl := by
  unfold wp_X11_readsAll
  refine loop_m (fun N (s : Nat × Nat × Bool) => wp_X11_readsAll_12 post g (nI n) N (nI s.1) gw gla (nI s.2.1) (zI s.2.2)) (fun s => s.1 ≤ 97 ∧ RS L n s.1 s.2.1 s.2.2 0 ∧ (s.1 = 0 → s.2.1 = 0)) (fun s => if s.2.2 then n + 1 - s.2.1 else 0) ?_ (0, 0, true) ⟨Nat.zero_le _, ⟨Nat.zero_le _, fun _ => ⟨Nat.zero_le _, rfl, fun i hi => absurd hi (Nat.not_lt_zero i), rfl⟩, fun q => by cases q⟩, fun _ => rfl⟩
  rintro N ⟨m, r, b⟩ ⟨lm, h, h0⟩ ih
  show wp_X11_readsAll_12 _ _ _ _ _ _ _ _ _
  unfold wp_X11_readsAll_12 wp_X11_readsAll_44
  have lm' : m ≤ 97 := lm
  have h' : RS L n m r b 0 := h
  have h0' : m = 0 → r = 0 := h0
  have hr := h'.1
  have ih' : ∀ m2 r2 b2, m2 ≤ 97 → RS L n m2 r2 b2 0 → (m2 = 0 → r2 = 0) → (if b2 then n + 1 - r2 else 0) < (if b then n + 1 - r else 0) → wp_X11_readsAll_12 post g (nI n) N (nI m2) gw gla (nI r2) (zI b2) := fun m2 r2 b2 a1 a2 a3 a4 => ih (m2, r2, b2) ⟨a1, a2, a3⟩ a4
  show ((zI b = 0 → _) ∧ (¬ zI b = 0 → _))
  refine zc (fun z => ?_) (fun z => ?_)
  · have zb : b = false := z
    subst zb
    exact wt2 rfl (hfail r (h'.2.2 rfl) _ _)
  · have zb : b = true := z
    subst zb
    have p := h'.2.1 rfl
    have cm : cn L r = m := p.2.2.2
    have through : (r < n ∨ n = 0) → wp_X11_goesThrough (fun rd wl => wp_X11_readsAll_12 post g (nI n) N (nI (m + 1)) gw gla rd wl) g (nI n) (nI r) (zI true) := fun hr0 => by
      refine m_goesThrough hn hg hL h' hr0 (fun r2 b2 h2 => ih' (m + 1) r2 b2 ?_ h2 (fun q => by omega) ?_)
      · have := cnt_le (fun i => decide (L i = 59)) r
        unfold cn at cm
        omega
      · rw [if_pos rfl]
        have hr2 := h2.1
        cases b2
        · show 0 < _; omega
        · rw [if_pos rfl]
          have c2 : cn L r2 = m + 1 := (h2.2.1 rfl).2.2.2
          by_cases q : r2 ≤ r
          · have := cnt_mono (p := fun i => decide (L i = 59)) r q
            unfold cn at c2 cm
            omega
          · omega
    show ((nI m = 0 → wp_X11_goesThrough (fun rd wl => wp_X11_readsAll_12 post g (nI n) N (nI m + nI 1) gw gla rd wl) g (nI n) (nI r) (zI true)) ∧ (¬ nI m = 0 → ((nI n ≤ nI r → ((¬ zI true = 0 → wp_X11_minds (fun gl => ∃ n66, wp_X11_readsAll_66 post g (nI n) n66 (nI m) (nI 0) gw gl (nI r) (zI true)) gw gla) ∧ (zI true = 0 → post (-1000 - nI r) gw gla (nI r) (zI true)))) ∧ (¬ nI n ≤ nI r → wp_X11_goesThrough (fun rd wl => wp_X11_readsAll_12 post g (nI n) N (nI m + nI 1) gw gla rd wl) g (nI n) (nI r) (zI true)))))
    rw [nS m]
    refine wc (nI_eq0 (by omega)) (fun q => ?_) (fun q => wc (nI_leI (by omega) (by omega)) (fun q2 => ?_) (fun q2 => through (Or.inl (by omega))))
    · have r0 := h0' q
      refine through ?_
      omega
    · have rn : r = n := by omega
      refine wf2 n1_0 (m_minds (fun gl hgl => ?_))
      have e := hok ?_ gl hgl (nI r)
      · rw [← rn, cm] at e
        rw [← rn]
        exact e
      · have fr : frs (bdB L) n = none := frs_none n (fun i hi => decide_eq_false (p.2.2.1 i (by omega)))
        have m1 := cnt_le (fun i => decide (L i = 59)) r
        unfold cn at cm
        unfold bdp
        rw [fr]
        simp only
        rw [if_pos ⟨by rw [← rn]; exact p.2.1, by omega⟩]
end RD1
