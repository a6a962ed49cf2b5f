
/-! frames of the smaller parts -/
theorem SPm_fr {M M' : QM} {s r : Nat} {f : Nat → Int} {A : Nat → Prop} (hw : q_wf M) (h : SPm M s r f) (hf : q_fr A M M') (h1 : ¬ A s) (h2 : ¬ A r) : SPm M' s r f := by
  obtain ⟨k1, f0, k2, hv⟩ := h
  have sl : s < q_top M := hw.lt (by rw [k1]; simp)
  have rl : r < q_top M := hw.lt (by rw [k2]; simp)
  exact ⟨by rw [hf.2.2.1 s sl, k1], by rw [hf.2.2.2 s sl h1, f0], by rw [hf.2.2.1 r rl, k2], fun j hj => by rw [hf.2.2.2 r rl h2, hv j hj]⟩
theorem HT_fr {M M' : QM} {g g' : Nat → Nat} {hl : List Nat} {A : Nat → Prop} (hg : gI M g) (h : HT M g hl) (hf : q_fr A M M') (h1 : ¬ A (g 15)) (e : g' 15 = g 15) : HT M' g' hl := by
  obtain ⟨m0, m1, m2, m3⟩ := h
  have l := hg.2 15 (by omega)
  have v : ∀ j, q_fv M' (g 15) j = q_fv M (g 15) j := hf.2.2.2 _ l h1
  unfold HT
  rw [e]
  exact ⟨by rw [hf.2.2.1 _ l, m0], m1, fun i w hw => by rw [v]; exact m2 i w hw, fun i hi => by rw [v]; exact m3 i hi⟩
theorem TL_fr {M M' : QM} {t s p cap : Nat} {l : List (Int × Int)} {A : Nat → Prop} (hw : q_wf M) (h : TL M t s p cap l) (hf : q_fr A M M') (h1 : ¬ A t) (h2 : ¬ A s) (h3 : ¬ A p) : TL M' t s p cap l :=
  TL_sm h (Sm_fr hf (hw.lt (by rw [h.1]; simp)) h1) (Sm_fr hf (hw.lt (by rw [h.2.2.2.2.1]; simp)) h2) (Sm_fr hf (hw.lt (by rw [h.2.2.2.2.2.1]; simp)) h3)
theorem RO_hc {M : QM} {g : Nat → Nat} {hs ch lr hc v : Int} (h : RO M g hs ch lr hc) : RO (q_wr M (g 0) 13 (qi v)) g hs ch lr v := by
  obtain ⟨k0, r0, r1, r2, r3, r4, r5, r6, r7, r8, r9, r10, r11, r12, r13⟩ := h
  exact ⟨k0, q_fwo (by decide) r0, q_fwo (by decide) r1, q_fwo (by decide) r2, q_fwo (by decide) r3, q_fwo (by decide) r4, q_fwo (by decide) r5, q_fwo (by decide) r6, q_fwo (by decide) r7, q_fwo (by decide) r8, q_fwo (by decide) r9, q_fwo (by decide) r10, q_fwo (by decide) r11, q_fwo (by decide) r12, q_fws⟩
theorem CRI_hc {M : QM} {g cN cT c : Nat → Nat} {e1 c1 e2 c2 : Nat} {L1 L2 : List Nat} {C : CWs} {J J2 : List Od} {ms : List Int} {hs lr hc v : Int} (h : CRI M g cN cT c e1 c1 L1 e2 c2 L2 C J J2 ms hs lr hc) : CRI (q_wr M (g 0) 13 (qi v)) g cN cT c e1 c1 L1 e2 c2 L2 C J J2 ms hs lr v ∧ q_fr (fun x => x = g 0) M (q_wr M (g 0) 13 (qi v)) := by
  obtain ⟨hg, hw, hk, h0, hR, hM, hC, hJ, hJ2, hd⟩ := h
  have f : GF (fun s => s = 0) M (q_wr M (g 0) 13 (qi v)) g g := GF_wr hg hw (by omega) rfl
  exact ⟨⟨f.2.2.2.1, f.2.2.2.2, gK_fr hg hk f.1, h0, RO_hc hR, MK_ss hM (f.ss hg) (by omega), CMm_ss hC (f.ss hg) (fun s hs => by omega), JR_gf hg hw hk f.1 (by omega) (by omega) hJ, JR_gf hg hw hk f.1 (by omega) (by omega) hJ2, hd⟩, q_fr.wr rfl⟩
/-- a hit more -/
theorem HT_push {M : QM} {g : Nat → Nat} {hl : List Nat} {p : Nat} (hg : gI M g) (h : HT M g hl) (hl20 : hl.length < 20) : HT (q_wr M (g 15) hl.length (qi p)) g (hl ++ [p]) := by
  obtain ⟨m0, m1, m2, m3⟩ := h
  have v : ∀ j, q_fv (q_wr M (g 15) hl.length (qi p)) (g 15) j = if j = hl.length then qi p else q_fv M (g 15) j := fun j => by
    rw [q_fv_wrE]
    by_cases e : j = hl.length
    · rw [if_pos ⟨rfl, e⟩, if_pos e]
    · rw [if_neg (fun z => e z.2), if_neg e]
  refine ⟨m0, by simp; omega, fun i w hw => ?_, fun i hi => ?_⟩
  · rw [v]
    by_cases e : i = hl.length
    · subst e
      rw [List.getElem?_append_right (Nat.le_refl _), Nat.sub_self] at hw
      have : w = p := by simpa using hw.symm
      rw [if_pos rfl, this]
    · rw [if_neg e]
      by_cases g2 : i < hl.length
      · rw [List.getElem?_append_left g2] at hw
        exact m2 i w hw
      · rw [List.getElem?_eq_none (by simp; omega)] at hw
        simp at hw
  · rw [v]
    split
    · exact ⟨_, rfl⟩
    · exact m3 i hi
