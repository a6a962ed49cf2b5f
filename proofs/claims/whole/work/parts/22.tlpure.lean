/-! timelines in order of days -/
def tlF (acc : Int) (l : List (Int × Int)) (x : Int) : Int := l.foldl (fun acc q => if q.1 ≤ x then q.2 else acc) acc
theorem tlF_at (l : List (Int × Int)) (x : Int) : tlAt l x = tlF (-5) l x := rfl
theorem tlF_cons (acc : Int) (q : Int × Int) (l : List (Int × Int)) (x : Int) : tlF acc (q :: l) x = tlF (if q.1 ≤ x then q.2 else acc) l x := rfl
theorem tlF_app (acc : Int) (l r : List (Int × Int)) (x : Int) : tlF acc (l ++ r) x = tlF (tlF acc l x) r x := List.foldl_append ..
theorem tlF_none {l : List (Int × Int)} {x : Int} (h : ∀ q ∈ l, x < q.1) (acc : Int) : tlF acc l x = acc := by
  induction l generalizing acc with
  | nil => rfl
  | cons q l ih =>
    rw [tlF_cons, if_neg (by have := h q (by simp); omega)]
    exact ih (fun r hr => h r (by simp [hr])) acc
def tlSrt (l : List (Int × Int)) : Prop := l.Pairwise (fun a b => a.1 < b.1)
theorem tlSrt_cons {q : Int × Int} {l : List (Int × Int)} : tlSrt (q :: l) ↔ (∀ r ∈ l, q.1 < r.1) ∧ tlSrt l := List.pairwise_cons
theorem tlRep_days {day old par : Int} : ∀ l : List (Int × Int), ∀ q ∈ tlRep day old par l, (∃ r ∈ l, r.1 ≤ q.1) := by
  intro l
  induction l with
  | nil => intro q hq; simp [tlRep] at hq
  | cons r l ih =>
    intro q hq
    rw [tlRep, List.mem_append] at hq
    rcases hq with hq | hq
    · refine ⟨r, by simp, ?_⟩
      split at hq
      · split at hq
        · simp at hq
          rcases hq with rfl | rfl
          · exact Int.le_refl _
          · simp; omega
        · simp at hq
          rw [hq]; exact Int.le_refl _
      · simp at hq
        rw [hq]; exact Int.le_refl _
    · obtain ⟨r', h1, h2⟩ := ih q hq
      exact ⟨r', by simp [h1], h2⟩
theorem tlHd_le {l : List (Int × Int)} (h : tlSrt l) : ∀ q ∈ l, tlHd l ≤ q.1 := by
  cases l with
  | nil => intro q hq; simp at hq
  | cons r l =>
    intro q hq
    rw [tlSrt_cons] at h
    show r.1 ≤ q.1
    rcases List.mem_cons.mp hq with rfl | hq
    · exact Int.le_refl _
    · exact Int.le_of_lt (h.1 q hq)
theorem tlRep_srt {day old par : Int} : ∀ l : List (Int × Int), tlSrt l → tlSrt (tlRep day old par l) := by
  intro l
  induction l with
  | nil => intro h; exact h
  | cons r l ih =>
    intro h
    have h' := tlSrt_cons.mp h
    have h2 := ih h'.2
    have h3 : ∀ q ∈ tlRep day old par l, tlHd l ≤ q.1 ∧ r.1 < q.1 := by
      intro q hq
      obtain ⟨r', g1, g2⟩ := tlRep_days l q hq
      have := tlHd_le h'.2 r' g1
      have := h'.1 r' g1
      omega
    rw [tlRep]
    split
    · rename_i hd
      split
      · refine List.pairwise_append.mpr ⟨?_, h2, ?_⟩
        · simp; omega
        · intro a ha b hb
          have := h3 b hb
          simp at ha
          rcases ha with rfl | rfl
          · exact this.2
          · show day < b.1; omega
      · refine List.pairwise_append.mpr ⟨by simp, h2, ?_⟩
        intro a ha b hb
        have := h3 b hb
        simp at ha
        rw [ha]; exact this.2
    · refine List.pairwise_append.mpr ⟨by simp, h2, ?_⟩
      intro a ha b hb
      have := h3 b hb
      simp at ha
      rw [ha]; exact this.2
theorem tlF_hd {acc acc2 : Int} {q : Int × Int} {l : List (Int × Int)} {x : Int} (h : q.1 ≤ x) : tlF acc (q :: l) x = tlF acc2 (q :: l) x := by
  rw [tlF_cons, tlF_cons, if_pos h, if_pos h]
theorem tlRep_F {day old par x : Int} (hx : x < 10000) : ∀ (l : List (Int × Int)) (q : Int × Int) (acc : Int), tlSrt (q :: l) → q.1 ≤ x → tlF acc (tlRep day old par (q :: l)) x = if day ≤ x ∧ tlF acc (q :: l) x = old then par else tlF acc (q :: l) x := by
  intro l
  induction l with
  | nil =>
    intro q acc _ hq
    have e0 : tlHd [] = 10000 := rfl
    rw [tlRep, tlRep, List.append_nil]
    rw [tlF_cons acc q [], if_pos hq]
    show _ = if day ≤ x ∧ q.2 = old then par else q.2
    by_cases h1 : q.2 = old ∧ day < tlHd []
    · rw [if_pos h1]
      by_cases h2 : q.1 < day
      · rw [if_pos h2, tlF_cons, if_pos hq, tlF_cons]
        show (if day ≤ x then par else q.2) = _
        by_cases h3 : day ≤ x
        · rw [if_pos h3, if_pos ⟨h3, h1.1⟩]
        · rw [if_neg h3, if_neg (fun g => h3 g.1)]
      · rw [if_neg h2, tlF_cons, if_pos hq, if_pos ⟨by omega, h1.1⟩]
        rfl
    · rw [if_neg h1, tlF_cons, if_pos hq, if_neg (by rintro ⟨g1, g2⟩; exact h1 ⟨g2, by omega⟩)]
      rfl
  | cons r l ih =>
    intro q acc hs hq
    have hs' := tlSrt_cons.mp hs
    by_cases hr : r.1 ≤ x
    · have ih' := ih r (-5) hs'.2 hr
      have e1 : tlF acc (q :: r :: l) x = tlF (-5) (r :: l) x := by rw [tlF_cons]; exact tlF_hd hr
      rw [e1, ← ih', tlRep, tlF_app]
      have : ∀ a b : Int, tlF a (tlRep day old par (r :: l)) x = tlF b (tlRep day old par (r :: l)) x := by
        intro a b
        rw [ih r a hs'.2 hr, ih r b hs'.2 hr, tlF_hd (acc := a) (acc2 := b) hr]
      exact this _ _
    · have hn : ∀ g ∈ r :: l, x < g.1 := by
        intro g hg
        have := tlHd_le hs'.2 g hg
        have e : tlHd (r :: l) = r.1 := rfl
        omega
      have hn2 : ∀ g ∈ tlRep day old par (r :: l), x < g.1 := by
        intro g hg
        obtain ⟨r', g1, g2⟩ := tlRep_days _ g hg
        have := hn r' g1
        omega
      have e1 : tlF acc (q :: r :: l) x = q.2 := by rw [tlF_cons, if_pos hq]; exact tlF_none hn _
      rw [e1, tlRep, tlF_app, tlF_none hn2]
      show tlF acc (if q.2 = old ∧ day < r.1 then _ else _) x = _
      by_cases h1 : q.2 = old ∧ day < r.1
      · rw [if_pos h1]
        by_cases h2 : q.1 < day
        · rw [if_pos h2, tlF_cons, if_pos hq, tlF_cons]
          show (if day ≤ x then par else q.2) = _
          by_cases h3 : day ≤ x
          · rw [if_pos h3, if_pos ⟨h3, h1.1⟩]
          · rw [if_neg h3, if_neg (fun g => h3 g.1)]
        · rw [if_neg h2, tlF_cons, if_pos hq, if_pos ⟨by omega, h1.1⟩]
          rfl
      · rw [if_neg h1, tlF_cons, if_pos hq, if_neg (by rintro ⟨g1, g2⟩; exact h1 ⟨g2, by omega⟩)]
        rfl
theorem tlRep_at {day old par x : Int} {q : Int × Int} {l : List (Int × Int)} (hs : tlSrt (q :: l)) (hq : q.1 ≤ x) (hx : x < 10000) : tlAt (tlRep day old par (q :: l)) x = if day ≤ x ∧ tlAt (q :: l) x = old then par else tlAt (q :: l) x := tlRep_F hx l q (-5) hs hq
theorem tlRep_lenE {day old par : Int} : ∀ l : List (Int × Int), (∀ q ∈ l, day ≤ q.1) → (tlRep day old par l).length = l.length := by
  intro l
  induction l with
  | nil => intro _; rfl
  | cons q l ih =>
    intro h
    have h1 := ih (fun r hr => h r (by simp [hr]))
    have h2 := h q (by simp)
    rw [tlRep, if_neg (show ¬ q.1 < day by omega)]
    split <;> simp [h1] <;> omega
theorem tlRep_len1 {day old par : Int} : ∀ l : List (Int × Int), tlSrt l → (tlRep day old par l).length ≤ l.length + 1 := by
  intro l
  induction l with
  | nil => intro _; exact Nat.le_succ _
  | cons q l ih =>
    intro hs
    have hs' := tlSrt_cons.mp hs
    have h1 := ih hs'.2
    rw [tlRep]
    split
    · rename_i hd
      split
      · rw [List.length_append, tlRep_lenE l (fun r hr => by have := tlHd_le hs'.2 r hr; omega)]
        simp; omega
      · simp; omega
    · simp; omega
theorem tlCut_le (l : List (Int × Int)) (d : Int) : ∃ r, l = tlCut l d ++ r ∧ ∀ q ∈ r, d ≤ q.1 := by
  refine ⟨(l.reverse.takeWhile (fun q => decide (d ≤ q.1))).reverse, ?_, ?_⟩
  · rw [tlCut, ← List.reverse_append, List.takeWhile_append_dropWhile, List.reverse_reverse]
  · intro q hq
    rw [List.mem_reverse] at hq
    have := List.all_eq_true.mp (List.all_takeWhile (l := l.reverse) (p := fun q => decide (d ≤ q.1))) q hq
    exact of_decide_eq_true this
theorem tlCut_F (l : List (Int × Int)) (d x : Int) (h : x < d) : tlAt (tlCut l d) x = tlAt l x := by
  obtain ⟨r, h1, h2⟩ := tlCut_le l d
  have h3 : tlAt l x = tlAt (tlCut l d ++ r) x := by rw [← h1]
  rw [h3, tlF_at (_ ++ _), tlF_app, tlF_none (fun q hq => by have := h2 q hq; omega)]
  rfl
theorem tlPut_at (l : List (Int × Int)) (d v x : Int) : tlAt (tlPut l d v) x = if d ≤ x then v else tlAt l x := by
  rw [tlPut, tlAt_snoc]
  by_cases h : d ≤ x
  · rw [if_pos h, if_pos h]
  · rw [if_neg h, if_neg h, tlCut_F l d x (by omega)]
theorem tlPut_len (l : List (Int × Int)) (d v : Int) : (tlPut l d v).length ≤ l.length + 1 := by
  obtain ⟨r, h1, _⟩ := tlCut_le l d
  have := congrArg List.length h1
  rw [List.length_append] at this
  rw [tlPut, List.length_append, List.length_singleton]
  omega
theorem tlCut_lt {l : List (Int × Int)} (hs : tlSrt l) (d : Int) : ∀ q ∈ tlCut l d, q.1 < d := by
  suffices h : ∀ l : List (Int × Int), tlSrt l.reverse → ∀ q ∈ l.dropWhile (fun q => decide (d ≤ q.1)), q.1 < d by
    intro q hq
    rw [tlCut, List.mem_reverse] at hq
    exact h l.reverse (by rw [List.reverse_reverse]; exact hs) q hq
  intro l
  induction l with
  | nil => intro _ q hq; simp at hq
  | cons r l ih =>
    intro hs q hq
    rw [List.dropWhile_cons] at hq
    have hs' := List.pairwise_append.mp (show List.Pairwise (fun a b => a.1 < b.1) (l.reverse ++ [r]) by simpa [tlSrt] using hs)
    split at hq
    · exact ih hs'.1 q hq
    · rename_i hd
      have hd' : r.1 < d := by simpa using hd
      rcases List.mem_cons.mp hq with rfl | hq
      · exact hd'
      · have := hs'.2.2 q (by simp [hq]) r (by simp)
        omega
theorem tlPut_srt {l : List (Int × Int)} (hs : tlSrt l) (d v : Int) : tlSrt (tlPut l d v) := by
  obtain ⟨r, h1, _⟩ := tlCut_le l d
  have h2 : tlSrt (tlCut l d) := by
    have := h1 ▸ hs
    exact (List.pairwise_append.mp (show List.Pairwise (fun a b => a.1 < b.1) (tlCut l d ++ r) from h1 ▸ hs)).1
  refine List.pairwise_append.mpr ⟨h2, by simp, ?_⟩
  intro a ha b hb
  have := tlCut_lt hs d a ha
  simp at hb
  rw [hb]; exact this
/-! a history told again -/
def evStep (day : Int) (st : List (Int × Int) × Bool) (e : Int × Int × Int) : List (Int × Int) × Bool :=
  if e.2.1 = 0 then ([(e.1, e.2.2)], decide (e.1 ≤ day))
  else if e.2.1 = 2 then (tlPut st.1 e.1 e.2.2, st.2)
  else if e.2.1 = 8 then (tlRep e.1 (tlAt st.1 e.1) e.2.2 st.1, st.2)
  else if e.2.1 = 3 ∨ e.2.1 = 4 then (st.1, st.2 && decide (day < e.1))
  else st
theorem evStep_srt {day : Int} {st : List (Int × Int) × Bool} {e : Int × Int × Int} (h : tlSrt st.1) : tlSrt (evStep day st e).1 ∧ (evStep day st e).1.length ≤ st.1.length + 1 := by
  unfold evStep
  split
  · exact ⟨by simp [tlSrt], by simp⟩
  split
  · exact ⟨tlPut_srt h _ _, tlPut_len _ _ _⟩
  split
  · exact ⟨tlRep_srt _ h, tlRep_len1 _ h⟩
  split
  · exact ⟨h, by simp⟩
  · exact ⟨h, by simp⟩
def evFold (day : Int) (l0 : List (Int × Int)) (l : List (Int × Int × Int)) : List (Int × Int) × Bool := l.foldl (evStep day) (l0, false)
theorem HI.fr {A : Nat → Prop} {M M' : QM} {t s p r : Nat} {l : List (Int × Int × Int)} (hT : HI M t s p r l) (hw : q_wf M) (hf : q_fr A M M') (h1 : ¬ A t) (h2 : ¬ A s) (h3 : ¬ A p) (h4 : ¬ A r) : HI M' t s p r l := by
  obtain ⟨kt, f0, f1, f2, f3, ks', kp', kr', nsp, nsr, npr, hl, he, hb, hz⟩ := hT
  have g := fun j => q_frv hf hw kt (by simp) h1 j
  have gs := fun j => q_frv hf hw ks' (by simp) h2 j
  have gp := fun j => q_frv hf hw kp' (by simp) h3 j
  have gr := fun j => q_frv hf hw kr' (by simp) h4 j
  refine ⟨q_frk hf hw kt (by simp), by rw [g]; exact f0, by rw [g]; exact f1, by rw [g]; exact f2, by rw [g]; exact f3, q_frk hf hw ks' (by simp), q_frk hf hw kp' (by simp), q_frk hf hw kr' (by simp), nsp, nsr, npr, hl, ?_, hb, ?_⟩
  · intro i hi h
    rw [gs, gp, gr]; exact he i hi h
  · intro i h
    rw [gs, gp, gr]; exact hz i h
