
/-! what is made: the register, put together -/
theorem kkx {M : QM} {x a b : Nat} (h : q_kd M x = (a, b)) (h5 : a ≠ 5) (h3 : a = 1 → b ≠ 3) : (q_kd M x).1 ≠ 5 ∧ q_kd M x ≠ (1, 3) := by
  rw [h]
  refine ⟨h5, fun z => ?_⟩
  injection z with z1 z2
  exact h3 z1 z2
theorem gI0_P {t T : Nat} (i k : Nat) : gA (gI0 t T) i k = T + 12 + 11 * i + k := by
  unfold gA gI0 offI
  rw [if_neg (by omega), if_neg (by omega), if_neg (by omega), if_neg (by omega), if_neg (by omega), if_neg (by omega)]
  omega
theorem gI0_I {A : QM} {t T : Nat} (top : q_top A = T + 243) (htT : t < T) : gI A (gI0 t T) := by
  have g0 : gI0 t T 0 = t := if_pos rfl
  refine ⟨fun s u hs hu e => ?_, fun s hs => ?_⟩
  · by_cases s0 : s = 0
    · by_cases u0 : u = 0
      · rw [s0, u0]
      · rw [s0, g0, gI0_s u0] at e
        exact absurd e (by omega)
    · by_cases u0 : u = 0
      · rw [u0, g0, gI0_s s0] at e
        exact absurd e (by omega)
      · rw [gI0_s s0, gI0_s u0] at e
        exact offI_inj s0 u0 hs hu (Nat.add_left_cancel e)
  · by_cases s0 : s = 0
    · rw [s0, g0, top]; omega
    · rw [gI0_s s0, top]
      have := offI_lt hs
      omega
section MK5
variable {A : QM} {t T d : Nat}
theorem vX12_asm (top : q_top A = T + 243) (htT : t < T) (wf : q_wf A) (h9 : q_kd A (q_gs A 0) = (9, 0)) (kt : q_kd A t = (1, 12)) (f0 : q_fv A t 0 = qr T) (f1 : q_fv A t 1 = qr (T + 2)) (f2 : q_fv A t 2 = qr (T + 4)) (f3 : q_fv A t 3 = qr (T + 232)) (f4 : q_fv A t 4 = qr (T + 234)) (f5 : q_fv A t 5 = qr (T + 237)) (f6 : q_fv A t 6 = qr (T + 239)) (f7 : q_fv A t 7 = qr (T + 240)) (v9 : q_fv A t 8 = qi 0 ∧ q_fv A t 9 = qr (T + 241) ∧ q_fv A t 10 = qi 0 ∧ q_fv A t 11 = qi (-5) ∧ q_fv A t 12 = qr (T + 242) ∧ q_fv A t 13 = qi 0) (k1 : TP A T (T + 1) []) (k3 : RD A (T + 2) (T + 3) 0 0 0) (k4 : JR A (T + 3) (q_gs A 0) 0 [] []) (k5 : SPm A (T + 232) (T + 233) (fun _ => 0)) (k7 : TL A (T + 234) (T + 235) (T + 236) 4 []) (k10 : SBm A (T + 237) (T + 238) 16 []) (k12 : JR A (T + 239) (q_gs A 0) 0 [] []) (k13 : JR A (T + 240) (q_gs A 0) 0 [] []) (kW : q_kd A (T + 4) = (1, 11) ∧ q_fv A (T + 4) 0 = qr (T + 5) ∧ q_fv A (T + 4) 1 = qi 0 ∧ q_fv A (T + 4) 2 = qi 0 ∧ q_fv A (T + 4) 3 = qr (T + 11) ∧ q_fv A (T + 4) 4 = qi 0) (FL : ∀ g c : Nat → Nat, g 18 = T + 5 → (∀ k, k < 4 → g (19 + k) = T + 6 + k) → g 23 = T + 10 → (∀ k, k < 4 → c k = 8) → FLm A g c [] []) (PK : q_kd A (T + 11) = (6, 20)) (PP : ∀ i, i < 20 → q_fv A (T + 11) i = qr (T + 12 + 11 * i) ∧ ∀ a : Nat → Nat, (∀ k, k < 11 → a k = T + 12 + 11 * i + k) → PLr A a 4 4 W00) (kM : q_kd A (T + 241) = (2, 6) ∧ ∀ i, q_fv A (T + 241) i = qi 0) (kH : q_kd A (T + 242) = (2, 20) ∧ ∀ i, q_fv A (T + 242) i = qi 0) : CRI A (gI0 t T) (fun _ => 4) (fun _ => 4) (fun _ => 8) (q_gs A 0) 0 [] (q_gs A 0) 0 [] (C0 (fun _ => W00)) [] [] [] 0 (-5) 0 ∧ HT A (gI0 t T) [] := by
  have g0 : gI0 t T 0 = t := rfl
  have g1 : gI0 t T 1 = T := rfl
  have g2 : gI0 t T 2 = T + 1 := rfl
  have g3 : gI0 t T 3 = T + 2 := rfl
  have g4 : gI0 t T 4 = T + 3 := rfl
  have g5 : gI0 t T 5 = T + 232 := rfl
  have g6 : gI0 t T 6 = T + 233 := rfl
  have g7 : gI0 t T 7 = T + 234 := rfl
  have g8 : gI0 t T 8 = T + 235 := rfl
  have g9 : gI0 t T 9 = T + 236 := rfl
  have g10 : gI0 t T 10 = T + 237 := rfl
  have g11 : gI0 t T 11 = T + 238 := rfl
  have g12 : gI0 t T 12 = T + 239 := rfl
  have g13 : gI0 t T 13 = T + 240 := rfl
  have g14 : gI0 t T 14 = T + 241 := rfl
  have g15 : gI0 t T 15 = T + 242 := rfl
  have g16 : gI0 t T 16 = T + 4 := rfl
  have g17 : gI0 t T 17 = T + 11 := rfl
  have g18 : gI0 t T 18 = T + 5 := rfl
  have g23 : gI0 t T 23 = T + 10 := rfl
  have gP : ∀ i k, gA (gI0 t T) i k = T + 12 + 11 * i + k := gI0_P
  have hI : gI A (gI0 t T) := gI0_I top htT
  obtain ⟨w1, w2, w3, w4, w5, w6⟩ := kW
  have hC : CMm A (gI0 t T) (fun _ => 4) (fun _ => 4) (fun _ => 8) (C0 (fun _ => W00)) := by
    refine ⟨⟨⟨?_, ?_, ?_, ?_, ?_, fun i hi => ?_⟩, ?_, ?_, ?_⟩, FL _ _ g18 (fun k hk => ?_) g23 (fun k hk => rfl), fun k hk => rfl⟩
    · rw [g16]; exact w1
    · rw [g16, g17]; exact w5
    · rw [g16]; exact w6
    · show 0 ≤ 20; omega
    · rw [g17]; exact PK
    · obtain ⟨p1, p2⟩ := PP i hi
      refine ⟨by rw [g17, gP]; exact p1, p2 _ (fun k hk => gP i k)⟩
    · rw [g16, g18]; exact w2
    · rw [g16]; exact w3
    · rw [g16]; exact w4
    · have hh : k = 0 ∨ k = 1 ∨ k = 2 ∨ k = 3 := by omega
      rcases hh with rfl | rfl | rfl | rfl <;> rfl
  have hK : gK A (gI0 t T) := fun s hs => by
    by_cases c : carS s
    · exact CMm_kk hC hs c
    · have hh : s = 0 ∨ s = 1 ∨ s = 2 ∨ s = 3 ∨ s = 4 ∨ s = 5 ∨ s = 6 ∨ s = 7 ∨ s = 8 ∨ s = 9 ∨ s = 10 ∨ s = 11 ∨ s = 12 ∨ s = 13 ∨ s = 14 ∨ s = 15 ∨ s = 17 := by unfold carS at c; omega
      rcases hh with rfl | rfl | rfl | rfl | rfl | rfl | rfl | rfl | rfl | rfl | rfl | rfl | rfl | rfl | rfl | rfl | rfl
      · rw [g0]; exact kkx kt (by decide) (by decide)
      · rw [g1]; exact kkx k1.1 (by decide) (by decide)
      · rw [g2]; exact kkx k1.2.2.2.1 (by decide) (by decide)
      · rw [g3]; exact kkx k3.1 (by decide) (by decide)
      · rw [g4]; exact kkx k4.1.1 (by decide) (by decide)
      · rw [g5]; exact kkx k5.1 (by decide) (by decide)
      · rw [g6]; exact kkx k5.2.2.1 (by decide) (by decide)
      · rw [g7]; exact kkx k7.1 (by decide) (by decide)
      · rw [g8]; exact kkx k7.2.2.2.2.1 (by decide) (by decide)
      · rw [g9]; exact kkx k7.2.2.2.2.2.1 (by decide) (by decide)
      · rw [g10]; exact kkx k10.1 (by decide) (by decide)
      · rw [g11]; exact kkx k10.2.2.2.2.1 (by decide) (by decide)
      · rw [g12]; exact kkx k12.1.1 (by decide) (by decide)
      · rw [g13]; exact kkx k13.1.1 (by decide) (by decide)
      · rw [g14]; exact kkx kM.1 (by decide) (by decide)
      · rw [g15]; exact kkx kH.1 (by decide) (by decide)
      · rw [g17]; exact kkx PK (by decide) (by decide)
  have hH : HT A (gI0 t T) [] := by
    unfold HT
    rw [g15]
    exact ⟨kH.1, by simp, fun i v hv => by simp at hv, fun i _ => ⟨0, kH.2 i⟩⟩
  have hM : MK A (gI0 t T) [] := by
    unfold MK
    rw [g14]
    exact ⟨kM.1, by simp, fun i v hv => by simp at hv, fun i _ => ⟨0, kM.2 i⟩⟩
  have hR : RO A (gI0 t T) 0 (([] : List Int).length) (-5) 0 := by
    unfold RO
    rw [g0, g1, g3, g16, g5, g7, g10, g12, g13, g14, g15]
    obtain ⟨y1, y2, y3, y4, y5, y6⟩ := v9
    exact ⟨kt, f0, f1, f2, f3, f4, f5, f6, f7, y1, y2, y3, y4, y5, y6⟩
  exact ⟨⟨hI, wf, hK, h9, hR, hM, hC, by rw [g12]; exact k12, by rw [g13]; exact k13, Or.inr (Or.inl rfl)⟩, hH⟩
end MK5
