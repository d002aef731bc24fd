/-! changes, without -/
def chB (h : Nat → Nat) (c a b : Nat) : Bool := !decide (a = b) && (hd h a && (hd h b && !decide ((tI (fl h a b)).testBit c = (tI h).testBit c)))
def chN (h : Nat → Nat) (c a : Nat) : Nat → Nat
  | 0 => 0
  | b + 1 => chN h c a b + (if chB h c a b then 1 else 0)
def chT (h : Nat → Nat) (c : Nat) : Nat → Nat
  | 0 => 0
  | a + 1 => chT h c a + chN h c a (h 42)
def chF (h : Nat → Nat) (c a : Nat) : Nat → Option Nat
  | 0 => none
  | b + 1 => match chF h c a b with
    | some x => some x
    | none => if chB h c a b then some (10 * a + b) else none
def chG (h : Nat → Nat) (c : Nat) : Nat → Option Nat
  | 0 => none
  | a + 1 => match chG h c a with
    | some x => some x
    | none => chF h c a (h 42)
def chH (h : Nat → Nat) (c a b : Nat) : Option Nat := match chG h c a with
  | some x => some x
  | none => chF h c a b
theorem chH_0 (h : Nat → Nat) (c a : Nat) : chH h c a 0 = chG h c a := by
  unfold chH
  cases chG h c a <;> rfl
theorem chH_e (h : Nat → Nat) (c a : Nat) : chH h c a (h 42) = chG h c (a + 1) := by
  unfold chH
  rw [chG]
theorem chH_s (h : Nat → Nat) (c a b : Nat) : chH h c a (b + 1) = match chH h c a b with
    | some x => some x
    | none => if chB h c a b then some (10 * a + b) else none := by
  unfold chH
  rw [chF]
  cases chG h c a <;> rfl
theorem chH_up {h : Nat → Nat} {c a b x : Nat} (e : chH h c a b = some x) : ∀ j, chH h c a (b + j) = some x
  | 0 => e
  | j + 1 => by
    show chH h c a (b + j + 1) = _
    rw [chH_s, chH_up e j]
theorem chG_up {h : Nat → Nat} {c a x : Nat} (e : chG h c a = some x) : ∀ j, chG h c (a + j) = some x
  | 0 => e
  | j + 1 => by
    show chG h c (a + j + 1) = _
    rw [chG, chG_up e j]
theorem chG_of {h : Nat → Nat} {c a b x : Nat} (e : chH h c a b = some x) (ha : a < h 42) (hb : b ≤ h 42) : chG h c (h 42) = some x := by
  have e1 := chH_up e (h 42 - b)
  rw [show b + (h 42 - b) = h 42 by omega, chH_e] at e1
  have e2 := chG_up e1 (h 42 - (a + 1))
  rw [show a + 1 + (h 42 - (a + 1)) = h 42 by omega] at e2
  exact e2
theorem chH_lt {h : Nat → Nat} {c a b x : Nat} (hm : h 42 ≤ 8) (ha : a < 8) (hb : b ≤ 8) (e : chH h c a b = some x) : x < 88 := by
  have key : ∀ a b, a < 8 → b ≤ 8 → ∀ x, chF h c a b = some x → x < 88 := by
    intro a b ha
    induction b with
    | zero => intro _ x e; cases e
    | succ b ih =>
      intro hb x e
      rw [chF] at e
      cases z : chF h c a b with
      | some y => rw [z] at e; cases e; exact ih (by omega) _ z
      | none =>
        rw [z] at e
        simp only at e
        split at e
        · cases e; omega
        · cases e
  have key2 : ∀ a, a ≤ 8 → ∀ x, chG h c a = some x → x < 88 := by
    intro a
    induction a with
    | zero => intro _ x e; cases e
    | succ a ih =>
      intro ha x e
      rw [chG] at e
      cases z : chG h c a with
      | some y => rw [z] at e; cases e; exact ih (by omega) _ z
      | none => rw [z] at e; exact key a _ (by omega) hm _ e
  unfold chH at e
  cases z : chG h c a with
  | some y => rw [z] at e; cases e; exact key2 a (by omega) _ z
  | none => rw [z] at e; exact key a b ha hb _ e
section CHG
variable {h : Nat → Nat}
theorem s_changesFor (H : hv h) {c : Nat} (hc : c < h 42) {w : Bool} {sz hr md : Int32} {ca fi vo at_ su : Int64} (e : HC h sz hr md ca fi vo at_ su) {d1 d2 d3 : Int32} {d4 d5 d6 d7 d8 : Int64} {s1 s2 s3 s4 : Int64} {t1 t2 t3 : Int32} {t4 : Int64} {post : Int32 → Int32 → Int32 → Int32 → Int64 → Int64 → Int64 → Int64 → Int64 → Int64 → Int64 → Int64 → Int64 → Int32 → Int32 → Int32 → Int64 → Prop} (hp : ∀ d1 d2 d3 d4 d5 d6 d7 d8 s1 s2 s3 s4 t1 t2 t3 t4, post (if w then enc9 (chG h c (h 42)) else nI (chT h c (h 42))) d1 d2 d3 d4 d5 d6 d7 d8 s1 s2 s3 s4 t1 t2 t3 t4) : wp_X8_changesFor post d1 d2 d3 d4 d5 d6 d7 d8 s1 s2 s3 s4 t1 t2 t3 t4 sz hr md ca fi vo at_ su (nI c) (zI w) := by
  have h8 := H.1
  unfold wp_X8_changesFor wp_X3_take
  refine s_draftIn H e ?_
  intro _ _ _ _ _
  have he := e
  obtain ⟨rfl, rfl, rfl, rfl, rfl, rfl, rfl, rfl⟩ := e
  refine s_contains (tI_lt H) (by omega) ?_
  refine lo17 (fun n a v d1 d2 d3 d4 d5 d6 d7 d8 s1 s2 s3 s4 t1 t2 t3 t4 => wp_X8_changesFor_24 post (nI (h 42)) (nI (h 40)) (nI (h 41)) (pL (fun c => h c)) (pL (fun c => h (8 + c))) (pL (fun c => h (16 + c))) (pL (fun c => h (24 + c))) (pL (fun c => h (32 + c))) (nI c) (zI w) n (zI ((tI h).testBit c)) v (nI a) d1 d2 d3 d4 d5 d6 d7 d8 s1 s2 s3 s4 t1 t2 t3 t4) (fun a v d1 d2 d3 d4 d5 d6 d7 d8 s1 s2 s3 s4 t1 t2 t3 t4 => HC h d1 d2 d3 d4 d5 d6 d7 d8 ∧ ((w = false → v = nI (chT h c a)) ∧ (w = true → chG h c a = none))) (h 42) _ _ _ _ _ _ _ _ _ _ _ _ _ _ _ _ _ ⟨he, fun _ => rfl, fun _ => rfl⟩ ?_ ?_
  · rintro n v d1 d2 d3 d4 d5 d6 d7 d8 s1 s2 s3 s4 t1 t2 t3 t4 ⟨hd', i1, i2⟩
    show wp_X8_changesFor_24 _ _ _ _ _ _ _ _ _ _ _ _ _ _ _ _ _ _ _ _ _ _ _ _ _ _ _ _ _ _ _
    unfold wp_X8_changesFor_24
    refine wt (nI_le (Nat.le_refl _) (by omega)) (zc (fun z => ?_) (fun z => ?_))
    · rw [i1 z]
      have := hp d1 d2 d3 d4 d5 d6 d7 d8 s1 s2 s3 s4 t1 t2 t3 t4
      rw [z] at this
      exact this
    · have := hp d1 d2 d3 d4 d5 d6 d7 d8 s1 s2 s3 s4 t1 t2 t3 t4
      rw [z, i2 z] at this
      exact this
  · rintro n a v d1 d2 d3 d4 d5 d6 d7 d8 s1 s2 s3 s4 t1 t2 t3 t4 ha ⟨hd', i1, i2⟩ ih
    show wp_X8_changesFor_24 _ _ _ _ _ _ _ _ _ _ _ _ _ _ _ _ _ _ _ _ _ _ _ _ _ _ _ _ _ _ _
    unfold wp_X8_changesFor_24
    refine wf (nI_ge ha (by omega)) ?_
    refine lo17 (fun m b v d1 d2 d3 d4 d5 d6 d7 d8 s1 s2 s3 s4 t1 t2 t3 t4 => wp_X8_changesFor_36 post (nI (h 42)) (nI (h 40)) (nI (h 41)) (pL (fun c => h c)) (pL (fun c => h (8 + c))) (pL (fun c => h (16 + c))) (pL (fun c => h (24 + c))) (pL (fun c => h (32 + c))) (nI c) (zI w) (wp_X8_changesFor_24 post (nI (h 42)) (nI (h 40)) (nI (h 41)) (pL (fun c => h c)) (pL (fun c => h (8 + c))) (pL (fun c => h (16 + c))) (pL (fun c => h (24 + c))) (pL (fun c => h (32 + c))) (nI c) (zI w) n) m (zI ((tI h).testBit c)) v (nI a) (nI b) d1 d2 d3 d4 d5 d6 d7 d8 s1 s2 s3 s4 t1 t2 t3 t4) (fun b v d1 d2 d3 d4 d5 d6 d7 d8 s1 s2 s3 s4 t1 t2 t3 t4 => HC h d1 d2 d3 d4 d5 d6 d7 d8 ∧ ((w = false → v = nI (chT h c a + chN h c a b)) ∧ (w = true → chH h c a b = none))) (h 42) _ _ _ _ _ _ _ _ _ _ _ _ _ _ _ _ _ ⟨hd', fun z => i1 z, fun z => by rw [chH_0]; exact i2 z⟩ ?_ ?_
    · rintro m v d1 d2 d3 d4 d5 d6 d7 d8 s1 s2 s3 s4 t1 t2 t3 t4 ⟨hd', i1, i2⟩
      show wp_X8_changesFor_36 _ _ _ _ _ _ _ _ _ _ _ _ _ _ _ _ _ _ _ _ _ _ _ _ _ _ _ _ _ _ _ _ _
      unfold wp_X8_changesFor_36
      refine wt (nI_le (Nat.le_refl _) (by omega)) ?_
      rw [nS a]
      exact ih _ _ _ _ _ _ _ _ _ _ _ _ _ _ _ _ _ ⟨hd', fun z => i1 z, fun z => by rw [← chH_e]; exact i2 z⟩
    · rintro m b v d1 d2 d3 d4 d5 d6 d7 d8 s1 s2 s3 s4 t1 t2 t3 t4 hb ⟨hd', i1, i2⟩ ih2
      show wp_X8_changesFor_36 _ _ _ _ _ _ _ _ _ _ _ _ _ _ _ _ _ _ _ _ _ _ _ _ _ _ _ _ _ _ _ _ _
      unfold wp_X8_changesFor_36 wp_X8_changesFor_122
      rw [nS b]
      refine wf (nI_ge hb (by omega)) ?_
      have skip : chB h c a b = false → ∀ d1 d2 d3 d4 d5 d6 d7 d8 s1 s2 s3 s4 t1 t2 t3 t4, HC h d1 d2 d3 d4 d5 d6 d7 d8 → wp_X8_changesFor_36 post (nI (h 42)) (nI (h 40)) (nI (h 41)) (pL (fun c => h c)) (pL (fun c => h (8 + c))) (pL (fun c => h (16 + c))) (pL (fun c => h (24 + c))) (pL (fun c => h (32 + c))) (nI c) (zI w) (wp_X8_changesFor_24 post (nI (h 42)) (nI (h 40)) (nI (h 41)) (pL (fun c => h c)) (pL (fun c => h (8 + c))) (pL (fun c => h (16 + c))) (pL (fun c => h (24 + c))) (pL (fun c => h (32 + c))) (nI c) (zI w) n) m (zI ((tI h).testBit c)) v (nI a) (nI (b + 1)) d1 d2 d3 d4 d5 d6 d7 d8 s1 s2 s3 s4 t1 t2 t3 t4 := fun z d1 d2 d3 d4 d5 d6 d7 d8 s1 s2 s3 s4 t1 t2 t3 t4 q => ih2 _ _ _ _ _ _ _ _ _ _ _ _ _ _ _ _ _ ⟨q, fun y => by rw [chN, z]; exact i1 y, fun y => by rw [chH_s, i2 y, z]; rfl⟩
      refine wc (nI_eq (by omega) (by omega)) (fun q => skip (by unfold chB; rw [decide_eq_true q]; rfl) _ _ _ _ _ _ _ _ _ _ _ _ _ _ _ _ hd') (fun q => ?_)
      refine s_hears H ha ?_
      refine zc (fun y => skip (by unfold chB; rw [y, decide_eq_false q]; rfl) _ _ _ _ _ _ _ _ _ _ _ _ _ _ _ _ hd') (fun y => ?_)
      refine s_hears H hb ?_
      refine zc (fun x => skip (by unfold chB; rw [x, y, decide_eq_false q]; rfl) _ _ _ _ _ _ _ _ _ _ _ _ _ _ _ _ hd') (fun x => ?_)
      refine s_flipAttack hd' (by omega) (by omega) (fun at2 e2 => ?_)
      refine s_draftIn (H.fl_ok ha hb q) e2 ?_
      intro _ _ _ _ _
      refine s_contains (tI_lt (H.fl_ok ha hb q)) (by omega) ?_
      refine s_flipAttack e2 (by omega) (by omega) (fun at3 e3 => ?_)
      rw [fl_fl] at e3
      refine wc zI_inj (fun u => ?_) (fun u => ?_)
      · refine wt (zI_inj.mpr u) ?_
        refine ih2 _ _ _ _ _ _ _ _ _ _ _ _ _ _ _ _ _ ⟨e3, fun z => ?_, fun z => ?_⟩
        · rw [chN, show chB h c a b = false by unfold chB; rw [decide_eq_true u]; simp, i1 z]
          exact nI_add _ 0
        · rw [chH_s, i2 z, show chB h c a b = false by unfold chB; rw [decide_eq_true u]; simp]
          rfl
      · have z2 : chB h c a b = true := by unfold chB; rw [decide_eq_false u, decide_eq_false q, x, y]; rfl
        refine zc (fun z => ?_) (fun z => ?_)
        · refine wf (fun k => u (zI_inj.mp k)) ?_
          refine ih2 _ _ _ _ _ _ _ _ _ _ _ _ _ _ _ _ _ ⟨e3, fun _ => ?_, fun y => by rw [z] at y; cases y⟩
          rw [chN, z2, i1 z]
          exact nI_add _ 1
        · have r := hp
          rw [z, chG_of (show chH h c a (b + 1) = some (10 * a + b) by rw [chH_s, i2 z, z2]; rfl) ha (by omega)] at r
          rw [pk_mul, nI_add]
          exact r _ _ _ _ _ _ _ _ _ _ _ _ _ _ _ _
end CHG
