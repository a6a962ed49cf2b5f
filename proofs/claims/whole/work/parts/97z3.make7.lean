
/-! what is made: the reference -/
def S00 : RS := fun k j => if k = 0 ∧ j = 7 then -5 else 0
theorem ov_id {m : Nat} {S : RS} {M : QM} (h1 : ∀ j, q_fv M m j = rfi m j S) (h2 : ∀ k, 1 ≤ k → k ≤ 7 → ∀ j : Nat, q_fv M (m + k) j = qi (S k j)) : ov m S M = M := by
  refine Prod.ext rfl (Prod.ext ?_ rfl)
  funext b j
  show (if m ≤ b ∧ b < m + 8 then (if b = m then rfi m j S else qi (S (b - m) j)) else M.2.1 b j) = M.2.1 b j
  by_cases hb : m ≤ b ∧ b < m + 8
  · rw [if_pos hb]
    by_cases e : b = m
    · rw [if_pos e, e]; exact (h1 j).symm
    · rw [if_neg e]
      have := h2 (b - m) (by omega) (by omega) j
      rw [show m + (b - m) = b by omega] at this
      exact this.symm
  · rw [if_neg hb]
theorem i121275N : (121275 : Int).toNat = 121275 := rfl
theorem i80N : (80 : Int).toNat = 80 := rfl
theorem i1040N : (1040 : Int).toNat = 1040 := rfl
theorem i384N : (384 : Int).toNat = 384 := rfl
section MK7
variable {M : QM} {m d : Nat}
theorem vX13_init (hk : q_kd M m = (1, 13)) (hw : q_wf M) (ht : q_top M = m + 1) (hf : ∀ j, q_fv M m j = q_dv (tyX13 j)) : ∃ M', q_C (d + 1) iX13_init [qr m] M none M' ∧ ov m S00 M' = M' ∧ RK m M' ∧ MKF m M M' 7 122816 := by
  obtain ⟨M', hM'⟩ : ∃ M', q_wr (q_al (q_wr (q_al (q_wr (q_al (q_wr (q_al (q_wr (q_al (q_wr (q_wr (q_al (q_wr (q_al M (2, 121275) 121275 (fun _ => qi 0)) m 0 (qr (m + 1))) (2, 80) 80 (fun _ => qi 0)) m 3 (qr (m + 2))) m 7 (qi (-5))) (2, 8) 8 (fun _ => qi 0)) m 8 (qr (m + 3))) (2, 1040) 1040 (fun _ => qi 0)) m 10 (qr (m + 4))) (2, 20) 20 (fun _ => qi 0)) m 12 (qr (m + 5))) (2, 9) 9 (fun _ => qi 0)) m 14 (qr (m + 6))) (2, 384) 384 (fun _ => qi 0)) m 15 (qr (m + 7)) = M' := ⟨_, rfl⟩
  have mk : MKF m M M' 7 122816 := by rw [← hM']; exact (MKF.rf hw).al.wr.al.wr.wr.al.wr.al.wr.al.wr.al.wr.al.wr
  have d0 : ∀ j, 16 ≤ j → q_dv (tyX13 j) = qi 0 := fun j hj => by
    unfold tyX13
    split <;> first | rfl | omega
  refine ⟨M', C_of (fun P => ?_), ov_id (fun j => ?_) (fun k h1 h2 j => ?_), ⟨by rw [mk.kd (by omega), hk], ?_, ?_, ?_, ?_, ?_, ?_, ?_⟩, mk⟩
  · rw [eX13_init]
    simp (disch := first | assumption | exact bI_lo | exact bI_hi | exact bI_01 | (show (List.map q_wd _).sum ≤ 8; with_unfolding_all exact Nat.le_of_ble_eq_true rfl) | omega | (repeat' (first | assumption | refine kdw ?_ | refine kdal ?_ ?_ | ((try simp only [q_top_wr, q_top_al]); omega)))) only [kX13_init_0, kX13_init_1, kX13_init_4, kX13_init_5, kX13_init_7, kX13_init_9, kX13_init_12, kX13_init_13, kX13_init_15, kX13_init_17, kX13_init_20, kX13_init_21, kX13_init_23, kX13_init_26, kX13_init_27, kX13_init_29, kX13_init_31, kX13_init_34, kX13_init_35, kX13_init_38, kX13_init_40, kX13_init_43, kX13_init_44, kX13_init_46, kX13_init_48, kX13_init_51, kX13_init_52, kX13_init_54, kX13_init_56, kX13_init_59, kX13_init_60, kX13_init_63, kX13_init_65, kX13_init_68, q_cut_i, q_cut_r, q_cut_l, q_cut_n, q_psh_n, q_psh_s, bI_eq0, ite_not, i121275N, i80N, i8N, i1040N, i20N, i9N, i384N]
    rw [← hM']
    simp only [q_top_wr, q_top_al, ht, Nat.add_assoc, Nat.reduceAdd]
  · rw [← hM']
    match j with
    | 0 => (repeat' (first | refine q_fwo (by omega) ?_ | refine fval (by (try simp only [q_top_wr, q_top_al]); omega) ?_))
           exact q_fws
    | 1 => (repeat' (first | refine q_fwo (by omega) ?_ | refine fval (by (try simp only [q_top_wr, q_top_al]); omega) ?_))
           exact hf 1
    | 2 => (repeat' (first | refine q_fwo (by omega) ?_ | refine fval (by (try simp only [q_top_wr, q_top_al]); omega) ?_))
           exact hf 2
    | 3 => (repeat' (first | refine q_fwo (by omega) ?_ | refine fval (by (try simp only [q_top_wr, q_top_al]); omega) ?_))
           exact q_fws
    | 4 => (repeat' (first | refine q_fwo (by omega) ?_ | refine fval (by (try simp only [q_top_wr, q_top_al]); omega) ?_))
           exact hf 4
    | 5 => (repeat' (first | refine q_fwo (by omega) ?_ | refine fval (by (try simp only [q_top_wr, q_top_al]); omega) ?_))
           exact hf 5
    | 6 => (repeat' (first | refine q_fwo (by omega) ?_ | refine fval (by (try simp only [q_top_wr, q_top_al]); omega) ?_))
           exact hf 6
    | 7 => (repeat' (first | refine q_fwo (by omega) ?_ | refine fval (by (try simp only [q_top_wr, q_top_al]); omega) ?_))
           exact q_fws
    | 8 => (repeat' (first | refine q_fwo (by omega) ?_ | refine fval (by (try simp only [q_top_wr, q_top_al]); omega) ?_))
           exact q_fws
    | 9 => (repeat' (first | refine q_fwo (by omega) ?_ | refine fval (by (try simp only [q_top_wr, q_top_al]); omega) ?_))
           exact hf 9
    | 10 => (repeat' (first | refine q_fwo (by omega) ?_ | refine fval (by (try simp only [q_top_wr, q_top_al]); omega) ?_))
            exact q_fws
    | 11 => (repeat' (first | refine q_fwo (by omega) ?_ | refine fval (by (try simp only [q_top_wr, q_top_al]); omega) ?_))
            exact hf 11
    | 12 => (repeat' (first | refine q_fwo (by omega) ?_ | refine fval (by (try simp only [q_top_wr, q_top_al]); omega) ?_))
            exact q_fws
    | 13 => (repeat' (first | refine q_fwo (by omega) ?_ | refine fval (by (try simp only [q_top_wr, q_top_al]); omega) ?_))
            exact hf 13
    | 14 => (repeat' (first | refine q_fwo (by omega) ?_ | refine fval (by (try simp only [q_top_wr, q_top_al]); omega) ?_))
            exact q_fws
    | 15 => (repeat' (first | refine q_fwo (by omega) ?_ | refine fval (by (try simp only [q_top_wr, q_top_al]); omega) ?_))
            exact q_fws
    | (n + 16) => (repeat' (first | refine q_fwo (by omega) ?_ | refine fval (by (try simp only [q_top_wr, q_top_al]); omega) ?_))
                  rw [hf, d0 _ (by omega)]
                  show qi 0 = qi (S00 0 ((n + 16 : Nat) : Int))
                  unfold S00
                  rw [if_neg (by omega)]
  · rw [← hM']
    have e : S00 k j = 0 := by unfold S00; rw [if_neg (by omega)]
    rw [e]
    have hh : k = 1 ∨ k = 2 ∨ k = 3 ∨ k = 4 ∨ k = 5 ∨ k = 6 ∨ k = 7 := by omega
    rcases hh with rfl | rfl | rfl | rfl | rfl | rfl | rfl
    · (repeat' (first | (refine fvt ?_; (try simp only [q_top_wr, q_top_al]); omega) | refine fvo (by omega) ?_ | refine fval (by (try simp only [q_top_wr, q_top_al]); omega) ?_))
    · (repeat' (first | (refine fvt ?_; (try simp only [q_top_wr, q_top_al]); omega) | refine fvo (by omega) ?_ | refine fval (by (try simp only [q_top_wr, q_top_al]); omega) ?_))
    · (repeat' (first | (refine fvt ?_; (try simp only [q_top_wr, q_top_al]); omega) | refine fvo (by omega) ?_ | refine fval (by (try simp only [q_top_wr, q_top_al]); omega) ?_))
    · (repeat' (first | (refine fvt ?_; (try simp only [q_top_wr, q_top_al]); omega) | refine fvo (by omega) ?_ | refine fval (by (try simp only [q_top_wr, q_top_al]); omega) ?_))
    · (repeat' (first | (refine fvt ?_; (try simp only [q_top_wr, q_top_al]); omega) | refine fvo (by omega) ?_ | refine fval (by (try simp only [q_top_wr, q_top_al]); omega) ?_))
    · (repeat' (first | (refine fvt ?_; (try simp only [q_top_wr, q_top_al]); omega) | refine fvo (by omega) ?_ | refine fval (by (try simp only [q_top_wr, q_top_al]); omega) ?_))
    · (repeat' (first | (refine fvt ?_; (try simp only [q_top_wr, q_top_al]); omega) | refine fvo (by omega) ?_ | refine fval (by (try simp only [q_top_wr, q_top_al]); omega) ?_))
  · rw [← hM']; (repeat' (first | (refine kdt ?_; (try simp only [q_top_wr, q_top_al]); omega) | refine kdw ?_ | refine kdal ?_ (by (try simp only [q_top_wr, q_top_al]); omega)))
  · rw [← hM']; (repeat' (first | (refine kdt ?_; (try simp only [q_top_wr, q_top_al]); omega) | refine kdw ?_ | refine kdal ?_ (by (try simp only [q_top_wr, q_top_al]); omega)))
  · rw [← hM']; (repeat' (first | (refine kdt ?_; (try simp only [q_top_wr, q_top_al]); omega) | refine kdw ?_ | refine kdal ?_ (by (try simp only [q_top_wr, q_top_al]); omega)))
  · rw [← hM']; (repeat' (first | (refine kdt ?_; (try simp only [q_top_wr, q_top_al]); omega) | refine kdw ?_ | refine kdal ?_ (by (try simp only [q_top_wr, q_top_al]); omega)))
  · rw [← hM']; (repeat' (first | (refine kdt ?_; (try simp only [q_top_wr, q_top_al]); omega) | refine kdw ?_ | refine kdal ?_ (by (try simp only [q_top_wr, q_top_al]); omega)))
  · rw [← hM']; (repeat' (first | (refine kdt ?_; (try simp only [q_top_wr, q_top_al]); omega) | refine kdw ?_ | refine kdal ?_ (by (try simp only [q_top_wr, q_top_al]); omega)))
  · rw [← hM']; (repeat' (first | (refine kdt ?_; (try simp only [q_top_wr, q_top_al]); omega) | refine kdw ?_ | refine kdal ?_ (by (try simp only [q_top_wr, q_top_al]); omega)))
end MK7
