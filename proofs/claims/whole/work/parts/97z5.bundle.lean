
/-! the register and what lies about it, held together -/
def OWX (m t0 x : Nat) : Prop := t0 ≤ x ∧ (x < m ∨ m + 8 ≤ x)
def FO (m t0 : Nat) (X X' : QM) : Prop := q_fr (OWX m t0) X X'
def OWN (m t0 : Nat) (X : QM) (g : Nat → Nat) (e1 c1 e2 c2 e3 c3 eP : Nat) : Prop := g 0 = t0 ∧ (∀ s, s < 244 → OWX m t0 (g s)) ∧ (∀ s, s < 244 → s ≠ 11 → g s ≠ eP) ∧ OWX m t0 eP ∧ (0 < c1 → OWX m t0 e1) ∧ (0 < c2 → OWX m t0 e2) ∧ (0 < c3 → OWX m t0 e3) ∧ m + 8 ≤ q_top X ∧ t0 ≤ m ∧ q_gs X 2 < t0 ∧ q_gs X 3 < t0 ∧ q_gs X 5 < t0
def CLX (m t0 : Nat) (X : QM) (g cN cT c : Nat → Nat) (e1 c1 : Nat) (L1 : List Nat) (e2 c2 : Nat) (L2 : List Nat) (e3 c3 eP cP cR : Nat) (f : Nat → Int) (l0 : List (Int × Int)) (C : CWs) (J J2 : List Od) (ms : List Int) (hs lr : Int) (hl : List Nat) (tl pp : List Int) : Prop := CRI X g cN cT c e1 c1 L1 e2 c2 L2 C J J2 ms hs lr hl.length ∧ TP X (g 1) (g 2) tl ∧ HT X g hl ∧ SPm X (g 5) (g 6) f ∧ (TL X (g 7) (g 8) (g 9) cR l0 ∧ tlSrt l0 ∧ l0.length ≤ 100) ∧ SBm X (g 10) eP cP pp ∧ CST X ∧ RDI X g e1 c1 e2 c2 e3 c3 ∧ OWN m t0 X g e1 c1 e2 c2 e3 c3 eP
section CLB
variable {m t0 : Nat} {X X' : QM} {g g' cN cT c cN' cT' c' : Nat → Nat} {e1 c1 e2 c2 e3 c3 eP cP cR e1' c1' e2' c2' e3' c3' eP' cP' cR' : Nat} {L1 L2 L1' L2' : List Nat} {f f' : Nat → Int} {l0 l0' : List (Int × Int)} {C C' : CWs} {J J2 J' J2' : List Od} {ms ms' : List Int} {hs lr hs' lr' hc : Int} {hl hl' : List Nat} {tl pp tl' pp' : List Int}
theorem CRI_n {A : Nat → Prop} (h : CRI X g cN cT c e1 c1 L1 e2 c2 L2 C J J2 ms hs lr hc) (hA : ∀ s, s < 244 → ¬ A (g s)) (h1 : 0 < c1 → ¬ A e1) (h2 : 0 < c2 → ¬ A e2) (ho : ∀ b, q_kd X b = (1, 3) → ¬ A b) (hf : q_fr A X X') (hw' : q_wf X') : CRI X' g cN cT c e1 c1 L1 e2 c2 L2 C J J2 ms hs lr hc := by
  obtain ⟨hg, hw, hk, h0, hR, hM, hC, hJ, hJ2, hd⟩ := h
  have hS : SMS (fun _ => False) X X' g g := fun t ht _ => ⟨Sm_fr hf (hg.2 t ht) (hA t ht), rfl⟩
  exact ⟨⟨hg.1, fun s hs => Nat.lt_of_lt_of_le (hg.2 s hs) hf.1⟩, hw', gK_fr hg hk hf, by rw [hf.2.1, hf.2.2.1 _ (hw.lt (by rw [h0]; simp)), h0], RO_ss hR hS (fun z => z) (fun _ _ => rfl), MK_ss hM hS (fun z => z), CMm_ss hC hS (fun _ _ z => z), JR_fr hw hJ hf (hA 12 (by omega)) h1 ho, JR_fr hw hJ2 hf (hA 13 (by omega)) h2 ho, hd⟩
theorem CST_ow (hw : q_wf X) (h : CST X) (hf : FO m t0 X X') (g2 : q_gs X 2 < t0) (g3 : q_gs X 3 < t0) (g5 : q_gs X 5 < t0) : CST X' := by
  obtain ⟨k2, k3, k5, v2, v3, v5⟩ := h
  have l2 : q_gs X 2 < q_top X := hw.lt (by rw [k2]; simp)
  have l3 : q_gs X 3 < q_top X := hw.lt (by rw [k3]; simp)
  have l5 : q_gs X 5 < q_top X := hw.lt (by rw [k5]; simp)
  have n : ∀ x, x < t0 → ¬ OWX m t0 x := fun x hx z => by have := z.1; omega
  unfold CST
  rw [hf.2.1, hf.2.2.1 _ l2, hf.2.2.1 _ l3, hf.2.2.1 _ l5]
  exact ⟨k2, k3, k5, fun j hj => by rw [hf.2.2.2 _ l2 (n _ g2)]; exact v2 j hj, fun j hj => by rw [hf.2.2.2 _ l3 (n _ g3)]; exact v3 j hj, fun j hj => by rw [hf.2.2.2 _ l5 (n _ g5)]; exact v5 j hj⟩
/-- whose cells are whose, on and on -/
theorem OWN_mv (h : OWN m t0 X g e1 c1 e2 c2 e3 c3 eP) (hPl : eP < q_top X) (hgl : ∀ s, s < 244 → g s < q_top X) (hf : FO m t0 X X') (g0 : g' 0 = g 0) (hg : ∀ s, s < 244 → g' s = g s ∨ q_top X ≤ g' s) (h1 : (e1' = e1 ∧ c1' = c1) ∨ q_top X ≤ e1') (h2 : (e2' = e2 ∧ c2' = c2) ∨ q_top X ≤ e2') (h3 : (e3' = e3 ∧ c3' = c3) ∨ q_top X ≤ e3') (hP : eP' = eP ∨ (q_top X ≤ eP' ∧ g' = g)) : OWN m t0 X' g' e1' c1' e2' c2' e3' c3' eP' := by
  obtain ⟨a0, a1, a2, a3, a4, a5, a6, a7, a8, a9, a10, a11⟩ := h
  have nw : ∀ x, q_top X ≤ x → OWX m t0 x := fun x hx => ⟨by omega, Or.inr (by omega)⟩
  have ht := hf.1
  refine ⟨by rw [g0, a0], fun s hs => ?_, fun s hs hn => ?_, ?_, fun hc => ?_, fun hc => ?_, fun hc => ?_, by omega, a8, by rw [hf.2.1]; exact a9, by rw [hf.2.1]; exact a10, by rw [hf.2.1]; exact a11⟩
  · rcases hg s hs with z | z
    · rw [z]; exact a1 s hs
    · exact nw _ z
  · rcases hP with z | ⟨z, e⟩
    · rw [z]
      rcases hg s hs with y | y
      · rw [y]; exact a2 s hs hn
      · omega
    · rw [e]
      have := hgl s hs
      omega
  · rcases hP with z | z
    · rw [z]; exact a3
    · exact nw _ z.1
  · rcases h1 with z | z
    · rw [z.1]; exact a4 (by omega)
    · exact nw _ z
  · rcases h2 with z | z
    · rw [z.1]; exact a5 (by omega)
    · exact nw _ z
  · rcases h3 with z | z
    · rw [z.1]; exact a6 (by omega)
    · exact nw _ z
theorem RDI_mv {Z : Nat → Prop} (hI : CRI X g cN cT c e1 c1 L1 e2 c2 L2 C J J2 ms hs lr hc) (hD : RDI X g e1 c1 e2 c2 e3 c3) (hZ : ¬ Z 3 ∧ ¬ Z 4) (hf : q_fr (fun x => (∃ s, s < 244 ∧ Z s ∧ x = g s) ∨ (x = e1 ∧ 0 < c1) ∨ (x = e2 ∧ 0 < c2)) X X') (hg3 : g' 3 = g 3) (hg4 : g' 4 = g 4) (h1 : (e1' = e1 ∧ c1' = c1) ∨ q_top X ≤ e1') (h2 : (e2' = e2 ∧ c2' = c2) ∨ q_top X ≤ e2') : RDI X' g' e1' c1' e2' c2' e3 c3 := by
  obtain ⟨⟨a, nu, w, hR⟩, ⟨L3, os, hJ⟩, d1, d2⟩ := hD
  obtain ⟨hg, hw, hk, -, -, -, -, hJ1, hJ2, -⟩ := hI
  have k1 : 0 < c1 → (q_kd X e1).1 = 5 := fun z => by rw [AL_k5 hJ1.1 z]
  have k2 : 0 < c2 → (q_kd X e2).1 = 5 := fun z => by rw [AL_k5 hJ2.1 z]
  have el : e3 < q_top X := hw.lt (by rw [hJ.1.2.2.2.2.1]; exact ALk_n0)
  have nA : ∀ s, s < 244 → ¬ Z s → ¬ ((∃ u, u < 244 ∧ Z u ∧ g s = g u) ∨ (g s = e1 ∧ 0 < c1) ∨ (g s = e2 ∧ 0 < c2)) := fun s hs hz q => by
    rcases q with ⟨u, hu, zu, e⟩ | ⟨e, hc⟩ | ⟨e, hc⟩
    · exact hz (hg.1 s u hs hu e ▸ zu)
    · exact (hk s hs).1 (by rw [e]; exact k1 hc)
    · exact (hk s hs).1 (by rw [e]; exact k2 hc)
  have hJ' : JR X' (g 4) e3 c3 L3 os := by
    refine JR_fr hw hJ hf (nA 4 (by omega) hZ.2) (fun hc3 q => ?_) (fun b hb q => ?_)
    · have k5 := AL_k5 hJ.1 hc3
      rcases q with ⟨u, hu, zu, e⟩ | ⟨e, hc⟩ | ⟨e, hc⟩
      · exact (hk u hu).1 (by rw [← e, k5])
      · unfold eD at d1; omega
      · unfold eD at d2; omega
    · rcases q with ⟨u, hu, zu, e⟩ | ⟨e, hc⟩ | ⟨e, hc⟩
      · exact (hk u hu).2 (by rw [← e, hb])
      · have := k1 hc; rw [← e, hb] at this; simp at this
      · have := k2 hc; rw [← e, hb] at this; simp at this
  have hR' : RD X' (g 3) (g 4) a nu w := RD.fr hw hR hf (nA 3 (by omega) hZ.1)
  refine ⟨⟨a, nu, w, by rw [hg3, hg4]; exact hR'⟩, ⟨L3, os, by rw [hg4]; exact hJ'⟩, ?_, ?_⟩
  · unfold eD at d1 ⊢
    rcases h1 with z | z
    · rw [z.1, z.2]; exact d1
    · left; omega
  · unfold eD at d2 ⊢
    rcases h2 with z | z
    · rw [z.1, z.2]; exact d2
    · left; omega
/-- the frame's cells are the register's -/
theorem FO_of {Z : Nat → Prop} {b3 bP : Prop} (hO : OWN m t0 X g e1 c1 e2 c2 e3 c3 eP) (hf : q_fr (fun x => (∃ s, s < 244 ∧ Z s ∧ x = g s) ∨ (x = e1 ∧ 0 < c1) ∨ (x = e2 ∧ 0 < c2) ∨ (b3 ∧ x = e3 ∧ 0 < c3) ∨ (bP ∧ x = eP)) X X') : FO m t0 X X' := by
  obtain ⟨a0, a1, a2, a3, a4, a5, a6, a7, a8, -⟩ := hO
  refine hf.wk (fun x _ q => ?_)
  rcases q with ⟨u, hu, zu, e⟩ | ⟨e, hc⟩ | ⟨e, hc⟩ | ⟨-, e, hc⟩ | ⟨-, e⟩
  · rw [e]; exact a1 u hu
  · rw [e]; exact a4 hc
  · rw [e]; exact a5 hc
  · rw [e]; exact a6 hc
  · rw [e]; exact a3
/-- all but the reader moves on -/
theorem CLX_gen {Z : Nat → Prop} {b3 : Prop} (h : CLX m t0 X g cN cT c e1 c1 L1 e2 c2 L2 e3 c3 eP cP cR f l0 C J J2 ms hs lr hl tl pp) (hI' : CRI X' g' cN' cT' c' e1' c1' L1' e2' c2' L2' C' J' J2' ms' hs' lr' hl.length) (hT' : TP X' (g 1) (g 2) tl') (hZ : ∀ s, Z s → ¬ ((5 ≤ s ∧ s ≤ 11) ∨ s = 15)) (hf : q_fr (fun x => (∃ s, s < 244 ∧ Z s ∧ x = g s) ∨ (x = e1 ∧ 0 < c1) ∨ (x = e2 ∧ 0 < c2) ∨ (b3 ∧ x = e3 ∧ 0 < c3)) X X') (hg : gO X g g') (h1 : (e1' = e1 ∧ c1' = c1) ∨ q_top X ≤ e1') (h2 : (e2' = e2 ∧ c2' = c2) ∨ q_top X ≤ e2') (h3 : (e3' = e3 ∧ c3' = c3) ∨ q_top X ≤ e3') (hD' : RDI X' g' e1' c1' e2' c2' e3' c3') : CLX m t0 X' g' cN' cT' c' e1' c1' L1' e2' c2' L2' e3' c3' eP cP cR f l0 C' J' J2' ms' hs' lr' hl tl' pp ∧ FO m t0 X X' := by
  obtain ⟨hI, hT, hH, hS, ⟨hL, hLs, hLl⟩, hB, hC, hD, hO⟩ := h
  have hO0 := hO
  obtain ⟨a0, a1, a2, a3, a4, a5, a6, a7, a8, a9, a10, a11⟩ := hO
  obtain ⟨hgI, hw, hk, -, -, -, -, hJ1, hJ2, -⟩ := id hI
  have hFO : FO m t0 X X' := FO_of (Z := Z) (b3 := b3) (bP := False) hO0 (hf.wk (fun x _ q => by
    rcases q with q | q | q | q
    · exact Or.inl q
    · exact Or.inr (Or.inl q)
    · exact Or.inr (Or.inr (Or.inl q))
    · exact Or.inr (Or.inr (Or.inr (Or.inl q)))))
  obtain ⟨⟨-, -, -, -⟩, ⟨L3, os, hJ3⟩, -, -⟩ := hD
  have k1 : 0 < c1 → (q_kd X e1).1 = 5 := fun z => by rw [AL_k5 hJ1.1 z]
  have k2 : 0 < c2 → (q_kd X e2).1 = 5 := fun z => by rw [AL_k5 hJ2.1 z]
  have k3 : 0 < c3 → (q_kd X e3).1 = 5 := fun z => by rw [AL_k5 hJ3.1 z]
  have kP : (q_kd X eP).1 = 4 := by rw [hB.2.2.2.2.1]
  have nA : ∀ s, s < 244 → ¬ Z s → ¬ ((∃ u, u < 244 ∧ Z u ∧ g s = g u) ∨ (g s = e1 ∧ 0 < c1) ∨ (g s = e2 ∧ 0 < c2) ∨ (b3 ∧ g s = e3 ∧ 0 < c3)) := fun s hs hz q => by
    rcases q with ⟨u, hu, zu, e⟩ | ⟨e, hc⟩ | ⟨e, hc⟩ | ⟨-, e, hc⟩
    · exact hz (hgI.1 s u hs hu e ▸ zu)
    · exact (hk s hs).1 (by rw [e]; exact k1 hc)
    · exact (hk s hs).1 (by rw [e]; exact k2 hc)
    · exact (hk s hs).1 (by rw [e]; exact k3 hc)
  have nP : ¬ ((∃ u, u < 244 ∧ Z u ∧ eP = g u) ∨ (eP = e1 ∧ 0 < c1) ∨ (eP = e2 ∧ 0 < c2) ∨ (b3 ∧ eP = e3 ∧ 0 < c3)) := fun q => by
    rcases q with ⟨u, hu, zu, e⟩ | ⟨e, hc⟩ | ⟨e, hc⟩ | ⟨-, e, hc⟩
    · exact a2 u hu (fun z => hZ u zu (Or.inl (by omega))) e.symm
    · have := k1 hc; rw [← e, kP] at this; omega
    · have := k2 hc; rw [← e, kP] at this; omega
    · have := k3 hc; rw [← e, kP] at this; omega
  have nZ : ∀ s, ((5 ≤ s ∧ s ≤ 11) ∨ s = 15) → ¬ Z s := fun s q z => hZ s z q
  have hg19 := hg.1
  refine ⟨⟨hI', ?_, HT_fr hgI hH hf (nA 15 (by omega) (nZ 15 (by omega))) (hg19 15 (by omega)), ?_, ⟨?_, hLs, hLl⟩, ?_, CST_ow hw hC hFO a9 a10 a11, hD', ?_⟩, hFO⟩
  · rw [hg19 1 (by omega), hg19 2 (by omega)]; exact hT'
  · rw [hg19 5 (by omega), hg19 6 (by omega)]
    exact SPm_fr hw hS hf (nA 5 (by omega) (nZ 5 (by omega))) (nA 6 (by omega) (nZ 6 (by omega)))
  · rw [hg19 7 (by omega), hg19 8 (by omega), hg19 9 (by omega)]
    exact TL_fr hw hL hf (nA 7 (by omega) (nZ 7 (by omega))) (nA 8 (by omega) (nZ 8 (by omega))) (nA 9 (by omega) (nZ 9 (by omega)))
  · rw [hg19 10 (by omega)]
    exact SBm_fr hw hB hf (nA 10 (by omega) (nZ 10 (by omega))) nP
  · exact OWN_mv hO0 (hw.lt (by rw [hB.2.2.2.2.1]; simp)) hgI.2 hFO (hg19 0 (by omega)) hg.2 h1 h2 h3 (Or.inl rfl)
theorem OWN_ov {S' : RS} (h : OWN m t0 X g e1 c1 e2 c2 e3 c3 eP) : OWN m t0 (ov m S' X) g e1 c1 e2 c2 e3 c3 eP := h
/-- the reference changes what is its own -/
theorem CLX_ov {S' : RS} (hK : RK m X) (h : CLX m t0 X g cN cT c e1 c1 L1 e2 c2 L2 e3 c3 eP cP cR f l0 C J J2 ms hs lr hl tl pp) : CLX m t0 (ov m S' X) g cN cT c e1 c1 L1 e2 c2 L2 e3 c3 eP cP cR f l0 C J J2 ms hs lr hl tl pp := by
  obtain ⟨hI, hT, hH, hS, ⟨hL, hLs, hLl⟩, hB, hC, ⟨⟨a, nu, w, hR⟩, ⟨L3, os, hJ3⟩, d1, d2⟩, hO⟩ := h
  have hO0 := hO
  obtain ⟨a0, a1, a2, a3, a4, a5, a6, a7, a8, a9, a10, a11⟩ := hO
  obtain ⟨hgI, hw, hk, -, -, -, -, hJ1, hJ2, -⟩ := id hI
  have hf : q_fr (fun x => m ≤ x ∧ x < m + 8) X (ov m S' X) := ⟨Nat.le_refl _, rfl, fun _ _ => rfl, fun b _ hb j => ov_fo (by omega)⟩
  have nO : ∀ x, OWX m t0 x → ¬ (m ≤ x ∧ x < m + 8) := fun x q z => by have := q.2; omega
  have nA : ∀ s, s < 244 → ¬ (m ≤ g s ∧ g s < m + 8) := fun s hs => nO _ (a1 s hs)
  have nP := nO _ a3
  have ho : ∀ b, q_kd X b = (1, 3) → ¬ (m ≤ b ∧ b < m + 8) := fun b hb z => by
    obtain ⟨r0, r1, r2, r3, r4, r5, r6, r7⟩ := hK
    have hh : b = m ∨ b = m + 1 ∨ b = m + 2 ∨ b = m + 3 ∨ b = m + 4 ∨ b = m + 5 ∨ b = m + 6 ∨ b = m + 7 := by omega
    rcases hh with rfl | rfl | rfl | rfl | rfl | rfl | rfl | rfl
    · rw [r0] at hb; simp at hb
    · rw [r1] at hb; simp at hb
    · rw [r2] at hb; simp at hb
    · rw [r3] at hb; simp at hb
    · rw [r4] at hb; simp at hb
    · rw [r5] at hb; simp at hb
    · rw [r6] at hb; simp at hb
    · rw [r7] at hb; simp at hb
  have nc : ∀ x, x < t0 → ¬ (m ≤ x ∧ x < m + 8) := fun x hx z => by omega
  refine ⟨CRI_n hI nA (fun z => nO _ (a4 z)) (fun z => nO _ (a5 z)) ho hf hw, TP_fr hw hT hf (nA 1 (by omega)) (nA 2 (by omega)), HT_fr hgI hH hf (nA 15 (by omega)) rfl, SPm_fr hw hS hf (nA 5 (by omega)) (nA 6 (by omega)), ⟨TL_fr hw hL hf (nA 7 (by omega)) (nA 8 (by omega)) (nA 9 (by omega)), hLs, hLl⟩, SBm_fr hw hB hf (nA 10 (by omega)) nP, ?_, ⟨⟨a, nu, w, RD.fr hw hR hf (nA 3 (by omega))⟩, ⟨L3, os, JR_fr hw hJ3 hf (nA 4 (by omega)) (fun z => nO _ (a6 z)) ho⟩, d1, d2⟩, OWN_ov hO0⟩
  obtain ⟨k2, k3, k5, v2, v3, v5⟩ := hC
  exact ⟨k2, k3, k5, fun j hj => by rw [ov_fo (by show q_gs X 2 < m ∨ _; omega)]; exact v2 j hj, fun j hj => by rw [ov_fo (by show q_gs X 3 < m ∨ _; omega)]; exact v3 j hj, fun j hj => by rw [ov_fo (by show q_gs X 5 < m ∨ _; omega)]; exact v5 j hj⟩
/-- the class leaves the reference's -/
theorem FO_ov {S : RS} (hf : FO m t0 X X') (hm : m + 8 ≤ q_top X) (h : ov m S X = X) : ov m S X' = X' := by
  refine ov_id (fun j => ?_) (fun k h1 h2 j => ?_)
  · rw [hf.2.2.2 m (by omega) (fun z => by have := z.2; omega) j]
    rw [← h]; exact ov_ff
  · rw [hf.2.2.2 (m + k) (by omega) (fun z => by have := z.2; omega) j, ← h]
    have := ov_r (m := m) (S := S) (M := X) (k := k) (j := (j : Int)) ⟨h1, h2⟩ (by omega)
    rw [Int.toNat_natCast] at this
    exact this
theorem FO_RK (hf : FO m t0 X X') (hm : m + 8 ≤ q_top X) (h : RK m X) : RK m X' := by
  unfold RK at h ⊢
  rw [hf.2.2.1 m (by omega), hf.2.2.1 (m + 1) (by omega), hf.2.2.1 (m + 2) (by omega), hf.2.2.1 (m + 3) (by omega), hf.2.2.1 (m + 4) (by omega), hf.2.2.1 (m + 5) (by omega), hf.2.2.1 (m + 6) (by omega), hf.2.2.1 (m + 7) (by omega)]
  exact h
end CLB
