
/-! slots: where the class keeps its cells; what an operation leaves alone -/
def upF {β : Type} (f : Nat → β) (i : Nat) (v : β) : Nat → β := fun j => if j = i then v else f j
theorem upF_s {β : Type} {f : Nat → β} {i : Nat} {v : β} : upF f i v i = v := if_pos rfl
theorem upF_o {β : Type} {f : Nat → β} {i j : Nat} {v : β} (h : j ≠ i) : upF f i v j = f j := if_neg h
theorem upF_id {β : Type} {f : Nat → β} {i : Nat} : upF f i (f i) = f := by
  funext j
  unfold upF
  split
  · rename_i h; rw [h]
  · rfl
def Sm (M M' : QM) (b : Nat) : Prop := q_kd M' b = q_kd M b ∧ ∀ j, q_fv M' b j = q_fv M b j
theorem Sm.rf {M : QM} {b : Nat} : Sm M M b := ⟨rfl, fun _ => rfl⟩
theorem Sm.tr {M M1 M2 : QM} {b : Nat} (h : Sm M M1 b) (h2 : Sm M1 M2 b) : Sm M M2 b := ⟨h2.1.trans h.1, fun j => (h2.2 j).trans (h.2 j)⟩
theorem Sm_fr {A : Nat → Prop} {M M' : QM} {b : Nat} (h : q_fr A M M') (hb : b < q_top M) (hA : ¬ A b) : Sm M M' b := ⟨h.2.2.1 b hb, h.2.2.2 b hb hA⟩
theorem Sm_wr {M : QM} {a k b : Nat} {v : CV} (h : b ≠ a) : Sm M (q_wr M a k v) b := ⟨rfl, fun j => by rw [q_fv_wrE, if_neg (fun z => h z.1)]⟩
theorem NM_sm {M M' : QM} {t s p cap : Nat} {l : List (Int × Int)} (hT : NM M t s p cap l) (h1 : Sm M M' t) (h2 : Sm M M' s) (h3 : Sm M M' p) : NM M' t s p cap l := by
  obtain ⟨kt, f0, f1, f2, ks, kp, hl, hc4, hc, he, hz⟩ := hT
  refine ⟨by rw [h1.1, kt], by rw [h1.2, f0], by rw [h1.2, f1], by rw [h1.2, f2], by rw [h2.1, ks], by rw [h3.1, kp], hl, hc4, hc, fun i hi => ?_, fun i hi => ?_⟩
  · rw [h2.2, h3.2]; exact he i hi
  · rw [h2.2, h3.2]; exact hz i hi
theorem TL_sm {M M' : QM} {t s p cap : Nat} {l : List (Int × Int)} (hT : TL M t s p cap l) (h1 : Sm M M' t) (h2 : Sm M M' s) (h3 : Sm M M' p) : TL M' t s p cap l := by
  obtain ⟨kt, f0, f1, f2, ks, kp, hl, hc4, hc, hsp, he, hz⟩ := hT
  refine ⟨by rw [h1.1, kt], by rw [h1.2, f0], by rw [h1.2, f1], by rw [h1.2, f2], by rw [h2.1, ks], by rw [h3.1, kp], hl, hc4, hc, hsp, fun i hi => ?_, fun i hi => ?_⟩
  · rw [h2.2, h3.2]; exact he i hi
  · rw [h2.2, h3.2]; exact hz i hi
theorem HI_sm {M M' : QM} {t s p r : Nat} {l : List (Int × Int × Int)} (hT : HI M t s p r l) (h1 : Sm M M' t) (h2 : Sm M M' s) (h3 : Sm M M' p) (h4 : Sm M M' r) : HI M' t s p r l := by
  obtain ⟨kt, f0, f1, f2, f3, ks, kp, kr, nsp, nsr, npr, hl, he, hb, hz⟩ := hT
  refine ⟨by rw [h1.1, kt], by rw [h1.2, f0], by rw [h1.2, f1], by rw [h1.2, f2], by rw [h1.2, f3], by rw [h2.1, ks], by rw [h3.1, kp], by rw [h4.1, kr], nsp, nsr, npr, hl, fun i hi h24 => ?_, hb, fun i hi => ?_⟩
  · rw [h2.2, h3.2, h4.2]; exact he i hi h24
  · rw [h2.2, h3.2, h4.2]; exact hz i hi
theorem PF_sm {M M' : QM} {a : Nat} {p : Pl} (h : PF M a p) (h1 : Sm M M' a) : PF M' a p := by
  obtain ⟨k, f0, f1, f2, f3, f4, f5⟩ := h
  exact ⟨by rw [h1.1, k], by rw [h1.2, f0], by rw [h1.2, f1], by rw [h1.2, f2], by rw [h1.2, f3], by rw [h1.2, f4], by rw [h1.2, f5]⟩
theorem PLr_sm {M M' : QM} {a a' : Nat → Nat} {cN cT : Nat} {p : Pl} (h : PLr M a cN cT p) (hs : ∀ k, k < 11 → Sm M M' (a k)) (ha : ∀ k, k < 11 → a' k = a k) : PLr M' a' cN cT p := by
  obtain ⟨h1, h2, h3, h4, h5, h6, h7, h8⟩ := h
  have s := fun k hk => hs k hk
  unfold PLr
  rw [ha 0 (by omega), ha 1 (by omega), ha 2 (by omega), ha 3 (by omega), ha 4 (by omega), ha 5 (by omega), ha 6 (by omega), ha 7 (by omega), ha 8 (by omega), ha 9 (by omega), ha 10 (by omega)]
  exact ⟨PF_sm h1 (s 0 (by omega)), by rw [(s 0 (by omega)).2, h2], by rw [(s 0 (by omega)).2, h3], by rw [(s 0 (by omega)).2, h4], NM_sm h5 (s 1 (by omega)) (s 2 (by omega)) (s 3 (by omega)), TL_sm h6 (s 4 (by omega)) (s 5 (by omega)) (s 6 (by omega)), HI_sm h7 (s 7 (by omega)) (s 8 (by omega)) (s 9 (by omega)) (s 10 (by omega)), h8⟩
theorem q_gr.tr {M M1 M2 : QM} {a b c : Nat} (h1 : q_gr M M1 a b) (h2 : q_gr M1 M2 b c) : q_gr M M2 a c := ⟨Nat.le_trans h1.1 h2.1, by have := h1.2.1; have := h2.2.1; omega, by have := h1.2.2; have := h2.2.2; omega⟩
theorem q_gr.ad {M M1 : QM} {a b : Nat} (h1 : q_gr M M1 a b) (c : Nat) : q_gr M M1 (a + c) (b + c) := ⟨Nat.add_le_add_right h1.1 c, by have := h1.2.1; omega, by have := h1.2.2; omega⟩
/-- slots: 0 the register, 1 2 the tape, 3 4 the reader, 5 6 the spelling, 7 8 9 retold, 10 11 the paper, 12 13 the lists, 14 marks, 15 hits, 16 17 the world, 18 to 23 the filters, behind 24 the places, 11 each -/
def gI (M : QM) (g : Nat → Nat) : Prop := (∀ s t, s < 244 → t < 244 → g s = g t → s = t) ∧ ∀ s, s < 244 → g s < q_top M
def GF (S : Nat → Prop) (M M' : QM) (g g' : Nat → Nat) : Prop := q_fr (fun x => ∃ s, s < 244 ∧ S s ∧ x = g s) M M' ∧ (∀ s, s < 244 → ¬ S s → g' s = g s) ∧ (∀ s, s < 244 → g' s = g s ∨ q_top M ≤ g' s) ∧ gI M' g' ∧ q_wf M'
theorem GF.tr {S : Nat → Prop} {M M1 M2 : QM} {g g1 g2 : Nat → Nat} (h1 : GF S M M1 g g1) (h2 : GF S M1 M2 g1 g2) : GF S M M2 g g2 := by
  obtain ⟨a1, a2, a3, a4, a5⟩ := h1
  obtain ⟨b1, b2, b3, b4, b5⟩ := h2
  refine ⟨a1.tr2 b1 ?_, fun s hs hS => (b2 s hs hS).trans (a2 s hs hS), fun s hs => ?_, b4, b5⟩
  · rintro x hx ⟨s, hs, hS, rfl⟩
    rcases a3 s hs with h | h
    · exact ⟨s, hs, hS, h⟩
    · omega
  · have := a1.1
    rcases b3 s hs with h | h
    · rw [h]; exact a3 s hs
    · exact Or.inr (by omega)
theorem GF.wk {S S' : Nat → Prop} {M M1 : QM} {g g1 : Nat → Nat} (h1 : GF S M M1 g g1) (h : ∀ s, s < 244 → S s → S' s) : GF S' M M1 g g1 := by
  obtain ⟨a1, a2, a3, a4, a5⟩ := h1
  refine ⟨a1.wk ?_, fun s hs hS => a2 s hs (fun z => hS (h s hs z)), a3, a4, a5⟩
  rintro x hx ⟨s, hs, hS, rfl⟩
  exact ⟨s, hs, h s hs hS, rfl⟩
theorem GF.rf {S : Nat → Prop} {M : QM} {g : Nat → Nat} (hg : gI M g) (hw : q_wf M) : GF S M M g g := ⟨q_fr.rf, fun _ _ _ => rfl, fun _ _ => Or.inl rfl, hg, hw⟩
theorem GF.sm {S : Nat → Prop} {M M' : QM} {g g' : Nat → Nat} (hg : gI M g) (h : GF S M M' g g') {s : Nat} (hs : s < 244) (hS : ¬ S s) : Sm M M' (g s) := by
  refine Sm_fr h.1 (hg.2 s hs) ?_
  rintro ⟨t, ht, hT, e⟩
  rw [hg.1 s t hs ht e] at hS
  exact hS hT
theorem GF_q {S A : Nat → Prop} {M M' : QM} {g : Nat → Nat} (hg : gI M g) (hw : q_wf M) (hA : ∀ x, A x → ∃ s, s < 244 ∧ S s ∧ x = g s) (hf : q_fr A M M') (hq : q_qt M M') : GF S M M' g g := by
  refine ⟨hf.wk (fun x _ h => hA x h), fun _ _ _ => rfl, fun _ _ => Or.inl rfl, ⟨hg.1, fun s hs => by rw [hq.2.1]; exact hg.2 s hs⟩, hw.qt hq⟩
theorem GF_g2 {S A : Nat → Prop} {M M' : QM} {g : Nat → Nat} {u v s' p' : Nat} (hg : gI M g) (hw : q_wf M') (hA : ∀ x, A x → ∃ s, s < 244 ∧ S s ∧ x = g s) (hf : q_fr A M M') (hu : u < 244) (hv : v < 244) (huv : u ≠ v) (hSu : S u) (hSv : S v) (h1 : s' = g u ∨ q_top M ≤ s') (h2 : p' = g v ∨ q_top M ≤ p') (hne : s' ≠ p') (t1 : s' < q_top M') (t2 : p' < q_top M') : GF S M M' g (upF (upF g u s') v p') := by
  have e : ∀ s, upF (upF g u s') v p' s = if s = v then p' else if s = u then s' else g s := fun s => rfl
  have ht := hf.1
  refine ⟨hf.wk (fun x _ h => hA x h), fun s hs hS => ?_, fun s hs => ?_, ⟨fun s t hs ht2 he => ?_, fun s hs => ?_⟩, hw⟩
  · rw [e, if_neg (fun z : s = v => hS (by rw [z]; exact hSv)), if_neg (fun z : s = u => hS (by rw [z]; exact hSu))]
  · rw [e]
    split
    · rename_i h; subst h; exact h2
    · split
      · rename_i h; subst h; exact h1
      · exact Or.inl rfl
  · rw [e, e] at he
    have gs := hg.2 s hs
    have gt := hg.2 t ht2
    have gu := hg.2 u hu
    have gv := hg.2 v hv
    by_cases sv : s = v
    · rw [if_pos sv] at he
      by_cases tv : t = v
      · rw [sv, tv]
      · rw [if_neg tv] at he
        by_cases tu : t = u
        · rw [if_pos tu] at he; exact absurd he.symm hne
        · rw [if_neg tu] at he
          rcases h2 with h2 | h2
          · rw [h2] at he; have := hg.1 _ _ hv ht2 he; omega
          · omega
    · rw [if_neg sv] at he
      by_cases su : s = u
      · rw [if_pos su] at he
        by_cases tv : t = v
        · rw [if_pos tv] at he; exact absurd he hne
        · rw [if_neg tv] at he
          by_cases tu : t = u
          · rw [su, tu]
          · rw [if_neg tu] at he
            rcases h1 with h1 | h1
            · rw [h1] at he; have := hg.1 _ _ hu ht2 he; omega
            · omega
      · rw [if_neg su] at he
        by_cases tv : t = v
        · rw [if_pos tv] at he
          rcases h2 with h2 | h2
          · rw [h2] at he; have := hg.1 _ _ hs hv he; omega
          · omega
        · rw [if_neg tv] at he
          by_cases tu : t = u
          · rw [if_pos tu] at he
            rcases h1 with h1 | h1
            · rw [h1] at he; have := hg.1 _ _ hs hu he; omega
            · omega
          · rw [if_neg tu] at he
            exact hg.1 s t hs ht2 he
  · rw [e]
    have := hg.2 s hs
    split
    · exact t2
    · split
      · exact t1
      · omega
theorem GF_wr {S : Nat → Prop} {M : QM} {g : Nat → Nat} {s k : Nat} {v : CV} (hg : gI M g) (hw : q_wf M) (hs : s < 244) (hS : S s) : GF S M (q_wr M (g s) k v) g g :=
  GF_q hg hw (A := fun x => x = g s) (fun x hx => ⟨s, hs, hS, hx⟩) (q_fr.wr rfl) q_qt.wr
/-- the cells of a place -/
def gA (g : Nat → Nat) (i k : Nat) : Nat := g (24 + 11 * i + k)
def rowS (i : Nat) (s : Nat) : Prop := 24 + 11 * i ≤ s ∧ s < 24 + 11 * i + 11
theorem gA_ne {M : QM} {g : Nat → Nat} (hg : gI M g) {i k l : Nat} (hi : i < 20) (hk : k < 11) (hl : l < 11) (h : k ≠ l) : gA g i k ≠ gA g i l := by
  intro e
  have := hg.1 _ _ (by omega) (by omega) e
  omega
theorem gA_sm {M M' : QM} {g g' : Nat → Nat} {i j k : Nat} (hg : gI M g) (h : GF (rowS i) M M' g g') (hj : j < 20) (hk : k < 11) (hij : j ≠ i) : Sm M M' (gA g j k) ∧ gA g' j k = gA g j k :=
  ⟨h.sm hg (by omega) (by unfold rowS; omega), h.2.1 _ (by omega) (by unfold rowS; omega)⟩
/-- the world with its counts -/
def WMm (M : QM) (g : Nat → Nat) (cN cT : Nat → Nat) (W : Nat → Pl) (n : Nat) (mg sp : Int) : Prop := WRd M (g 16) (g 17) (gA g) cN cT W n ∧ q_fv M (g 16) 0 = qr (g 18) ∧ q_fv M (g 16) 1 = qi mg ∧ q_fv M (g 16) 2 = qi sp
theorem WMm_upd {M M' : QM} {g g' : Nat → Nat} {cN cT : Nat → Nat} {W : Nat → Pl} {n : Nat} {mg sp : Int} {i cN' cT' : Nat} {p' : Pl} (hg : gI M g) (hW : WMm M g cN cT W n mg sp) (hi : i < 20) (hF : GF (rowS i) M M' g g') (h0 : gA g' i 0 = gA g i 0) (hp : PLr M' (gA g' i) cN' cT' p') : WMm M' g' (upF cN i cN') (upF cT i cT') (upF W i p') n mg sp := by
  obtain ⟨⟨kw, fpa, fn, hn, kpa, hpl⟩, f0, f1, f2⟩ := hW
  have e16 : g' 16 = g 16 := hF.2.1 16 (by omega) (by unfold rowS; omega)
  have e17 : g' 17 = g 17 := hF.2.1 17 (by omega) (by unfold rowS; omega)
  have e18 : g' 18 = g 18 := hF.2.1 18 (by omega) (by unfold rowS; omega)
  have s16 : Sm M M' (g 16) := hF.sm hg (by omega) (by unfold rowS; omega)
  have s17 : Sm M M' (g 17) := hF.sm hg (by omega) (by unfold rowS; omega)
  unfold WMm WRd
  rw [e16, e17, e18, s16.1, s17.1]
  refine ⟨⟨kw, by rw [s16.2, fpa], by rw [s16.2, fn], hn, kpa, fun j hj => ?_⟩, by rw [s16.2, f0], by rw [s16.2, f1], by rw [s16.2, f2]⟩
  obtain ⟨q1, q2⟩ := hpl j hj
  by_cases e : j = i
  · subst e
    rw [upF_s, upF_s, upF_s, h0, s17.2]
    exact ⟨q1, hp⟩
  · rw [upF_o e, upF_o e, upF_o e, (gA_sm hg hF hj (by omega) e).2, s17.2]
    exact ⟨q1, PLr_sm q2 (fun k hk => (gA_sm hg hF hj hk e).1) (fun k hk => (gA_sm hg hF hj hk e).2)⟩
