/-! timelines in order of days -/
def tlF (acc : Int) (l : List (Int × Int)) (x : Int) : Int := l.foldl (fun acc q => if q.1 ≤ x then q.2 else acc) acc
theorem tlF_at (l : List (Int × Int)) (x : Int) : tlAt l x = tlF (-5) l x := rfl
theorem tlF_cons (acc : Int) (q : Int × Int) (l : List (Int × Int)) (x : Int) : tlF acc (q :: l) x = tlF (if q.1 ≤ x then q.2 else acc) l x := rfl
theorem tlF_app (acc : Int) (l r : List (Int × Int)) (x : Int) : tlF acc (l ++ r) x = tlF (tlF acc l x) r x := List.foldl_append ..
theorem tlF_none {l : List (Int × Int)} {x : Int} (h : ∀ q ∈ l, x < q.1) (acc : Int) : tlF acc l x = acc := by
  induction l generalizing acc with
  | nil => rfl
  | cons q l ih =>
    rw [tlF_cons, if_neg (by have := h q (by simp); omega)]
    exact ih (fun r hr => h r (by simp [hr])) acc
def tlSrt (l : List (Int × Int)) : Prop := l.Pairwise (fun a b => a.1 < b.1)
theorem tlSrt_cons {q : Int × Int} {l : List (Int × Int)} : tlSrt (q :: l) ↔ (∀ r ∈ l, q.1 < r.1) ∧ tlSrt l := List.pairwise_cons
theorem tlRep_days {day old par : Int} : ∀ l : List (Int × Int), ∀ q ∈ tlRep day old par l, (∃ r ∈ l, r.1 ≤ q.1) := by
  intro l
  induction l with
  | nil => intro q hq; simp [tlRep] at hq
  | cons r l ih =>
    intro q hq
    rw [tlRep, List.mem_append] at hq
    rcases hq with hq | hq
    · refine ⟨r, by simp, ?_⟩
      split at hq
      · split at hq
        · simp at hq
          rcases hq with rfl | rfl
          · exact Int.le_refl _
          · simp; omega
        · simp at hq
          rw [hq]; exact Int.le_refl _
      · simp at hq
        rw [hq]; exact Int.le_refl _
    · obtain ⟨r', h1, h2⟩ := ih q hq
      exact ⟨r', by simp [h1], h2⟩
theorem tlHd_le {l : List (Int × Int)} (h : tlSrt l) : ∀ q ∈ l, tlHd l ≤ q.1 := by
  cases l with
  | nil => intro q hq; simp at hq
  | cons r l =>
    intro q hq
    rw [tlSrt_cons] at h
    show r.1 ≤ q.1
    rcases List.mem_cons.mp hq with rfl | hq
    · exact Int.le_refl _
    · exact Int.le_of_lt (h.1 q hq)
theorem tlRep_srt {day old par : Int} : ∀ l : List (Int × Int), tlSrt l → tlSrt (tlRep day old par l) := by
  intro l
  induction l with
  | nil => intro h; exact h
  | cons r l ih =>
    intro h
    have h' := tlSrt_cons.mp h
    have h2 := ih h'.2
    have h3 : ∀ q ∈ tlRep day old par l, tlHd l ≤ q.1 ∧ r.1 < q.1 := by
      intro q hq
      obtain ⟨r', g1, g2⟩ := tlRep_days l q hq
      have := tlHd_le h'.2 r' g1
      have := h'.1 r' g1
      omega
    rw [tlRep]
    split
    · rename_i hd
      split
      · refine List.pairwise_append.mpr ⟨?_, h2, ?_⟩
        · simp; omega
        · intro a ha b hb
          have := h3 b hb
          simp at ha
          rcases ha with rfl | rfl
          · exact this.2
          · show day < b.1; omega
      · refine List.pairwise_append.mpr ⟨by simp, h2, ?_⟩
        intro a ha b hb
        have := h3 b hb
        simp at ha
        rw [ha]; exact this.2
    · refine List.pairwise_append.mpr ⟨by simp, h2, ?_⟩
      intro a ha b hb
      have := h3 b hb
      simp at ha
      rw [ha]; exact this.2
