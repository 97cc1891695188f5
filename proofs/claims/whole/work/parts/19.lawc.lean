abbrev K_law_18 (N : Nat) (xs : Nat → Int) (d : Nat) (Q : Int → Mem → Prop) (x3 : Int) (σ : Mem) : Prop := XX (some (N, xs)) (wp d) c_law true Q 18 [some (.inr (.inr 1000)), some (.inr (.inr 0)), some (.inr (.inr 49)), some (.inl x3)] [] σ
set_option maxRecDepth 100000 in
set_option maxHeartbeats 16000000 in
theorem g_law_18 {N : Nat} {xs : Nat → Int} {call : Nat → List AV → Mem → (Int → Mem → Prop) → Prop} {cut : Nat → Lo → List AV → Mem → Prop} {Q : Int → Mem → Prop} {x3 : Int} {σ : Mem} (h :
  ((w32 ((N : Int) - 6)) < x3 → isB 1 ∧ Q 1 σ) ∧
  (x3 ≤ (w32 ((N : Int) - 6)) →
    (0 ≤ x3 ∧ x3 < (N : Int)) ∧ ((andI (xs x3.toNat) 63) < 0 ∨ 42 < (andI (xs x3.toNat) 63) → cut 18 [some (.inr (.inr 1000)), some (.inr (.inr 0)), some (.inr (.inr 49)), some (.inl (w32 (x3 + 6)))] [] σ) ∧
    ((andI (xs x3.toNat) 63) = 0 → (0 ≤ (w32 (x3 + 1)) ∧ (w32 (x3 + 1)) < (N : Int)) ∧ (0 ≤ (w32 (x3 + 2)) ∧ (w32 (x3 + 2)) < (N : Int)) ∧ (0 ≤ (w32 (x3 + 3)) ∧ (w32 (x3 + 3)) < (N : Int)) ∧ call m_X_feed [.inr (.inr 0), .inl (xs (w32 (x3 + 1)).toNat), .inr (.inl (orL (shlL (xs (w32 (x3 + 2)).toNat) 32) (andL (xs (w32 (x3 + 3)).toNat) 4294967295)))] σ (fun (r1 : Int) (s2 : Mem) =>
      (0 ≤ (w32 (x3 + 1)) ∧ (w32 (x3 + 1)) < (N : Int)) ∧ (0 ≤ (w32 (x3 + 2)) ∧ (w32 (x3 + 2)) < (N : Int)) ∧ (0 ≤ (w32 (x3 + 3)) ∧ (w32 (x3 + 3)) < (N : Int)) ∧ call m_M_feed [.inr (.inr 49), .inl (xs (w32 (x3 + 1)).toNat), .inr (.inl (orL (shlL (xs (w32 (x3 + 2)).toNat) 32) (andL (xs (w32 (x3 + 3)).toNat) 4294967295)))] s2 (fun (r3 : Int) (s4 : Mem) =>
        (r1 = r3 →
            cut 18 [some (.inr (.inr 1000)), some (.inr (.inr 0)), some (.inr (.inr 49)), some (.inl (w32 (x3 + 6)))] [] s4) ∧
          (¬ r1 = r3 → isB 0 ∧ Q 0 s4)))) ∧
    ((andI (xs x3.toNat) 63) = 0 + 1 → call m_X_read [.inr (.inr 0)] σ (fun (r5 : Int) (s6 : Mem) =>
      call m_M_read [.inr (.inr 49)] s6 (fun (r7 : Int) (s8 : Mem) =>
        (r5 = r7 →
            cut 18 [some (.inr (.inr 1000)), some (.inr (.inr 0)), some (.inr (.inr 49)), some (.inl (w32 (x3 + 6)))] [] s8) ∧
          (¬ r5 = r7 → isB 0 ∧ Q 0 s8)))) ∧
    ((andI (xs x3.toNat) 63) = 0 + 1 + 1 → (0 ≤ (w32 (x3 + 1)) ∧ (w32 (x3 + 1)) < (N : Int)) ∧ call m_X_weight [.inr (.inr 0), .inl (xs (w32 (x3 + 1)).toNat)] σ (fun (r9 : Int) (s10 : Mem) =>
      (0 ≤ (w32 (x3 + 1)) ∧ (w32 (x3 + 1)) < (N : Int)) ∧ call m_M_weight [.inr (.inr 49), .inl (xs (w32 (x3 + 1)).toNat)] s10 (fun (r11 : Int) (s12 : Mem) =>
        (r9 = r11 →
            cut 18 [some (.inr (.inr 1000)), some (.inr (.inr 0)), some (.inr (.inr 49)), some (.inl (w32 (x3 + 6)))] [] s12) ∧
          (¬ r9 = r11 → isB 0 ∧ Q 0 s12)))) ∧
    ((andI (xs x3.toNat) 63) = 0 + 1 + 1 + 1 → (0 ≤ (w32 (x3 + 1)) ∧ (w32 (x3 + 1)) < (N : Int)) ∧ (0 ≤ (w32 (x3 + 2)) ∧ (w32 (x3 + 2)) < (N : Int)) ∧ (0 ≤ (w32 (x3 + 3)) ∧ (w32 (x3 + 3)) < (N : Int)) ∧ call m_X_gets [.inr (.inr 0), .inl (xs (w32 (x3 + 1)).toNat), .inl (xs (w32 (x3 + 2)).toNat), .inl (xs (w32 (x3 + 3)).toNat)] σ (fun (r13 : Int) (s14 : Mem) =>
      (0 ≤ (w32 (x3 + 1)) ∧ (w32 (x3 + 1)) < (N : Int)) ∧ (0 ≤ (w32 (x3 + 2)) ∧ (w32 (x3 + 2)) < (N : Int)) ∧ (0 ≤ (w32 (x3 + 3)) ∧ (w32 (x3 + 3)) < (N : Int)) ∧ call m_M_gets [.inr (.inr 49), .inl (xs (w32 (x3 + 1)).toNat), .inl (xs (w32 (x3 + 2)).toNat), .inl (xs (w32 (x3 + 3)).toNat)] s14 (fun (r15 : Int) (s16 : Mem) =>
        (r13 = r15 →
            cut 18 [some (.inr (.inr 1000)), some (.inr (.inr 0)), some (.inr (.inr 49)), some (.inl (w32 (x3 + 6)))] [] s16) ∧
          (¬ r13 = r15 → isB 0 ∧ Q 0 s16)))) ∧
    ((andI (xs x3.toNat) 63) = 0 + 1 + 1 + 1 + 1 → (0 ≤ (w32 (x3 + 1)) ∧ (w32 (x3 + 1)) < (N : Int)) ∧ (0 ≤ (w32 (x3 + 2)) ∧ (w32 (x3 + 2)) < (N : Int)) ∧ (0 ≤ (w32 (x3 + 3)) ∧ (w32 (x3 + 3)) < (N : Int)) ∧ call m_X_second [.inr (.inr 0), .inl (xs (w32 (x3 + 1)).toNat), .inl (xs (w32 (x3 + 2)).toNat), .inl (xs (w32 (x3 + 3)).toNat)] σ (fun (r17 : Int) (s18 : Mem) =>
      (0 ≤ (w32 (x3 + 1)) ∧ (w32 (x3 + 1)) < (N : Int)) ∧ (0 ≤ (w32 (x3 + 2)) ∧ (w32 (x3 + 2)) < (N : Int)) ∧ (0 ≤ (w32 (x3 + 3)) ∧ (w32 (x3 + 3)) < (N : Int)) ∧ call m_M_second [.inr (.inr 49), .inl (xs (w32 (x3 + 1)).toNat), .inl (xs (w32 (x3 + 2)).toNat), .inl (xs (w32 (x3 + 3)).toNat)] s18 (fun (r19 : Int) (s20 : Mem) =>
        (r17 = r19 →
            cut 18 [some (.inr (.inr 1000)), some (.inr (.inr 0)), some (.inr (.inr 49)), some (.inl (w32 (x3 + 6)))] [] s20) ∧
          (¬ r17 = r19 → isB 0 ∧ Q 0 s20)))) ∧
    ((andI (xs x3.toNat) 63) = 0 + 1 + 1 + 1 + 1 + 1 → (0 ≤ (w32 (x3 + 1)) ∧ (w32 (x3 + 1)) < (N : Int)) ∧ call m_X_ties [.inr (.inr 0), .inl (xs (w32 (x3 + 1)).toNat)] σ (fun (r21 : Int) (s22 : Mem) =>
      (0 ≤ (w32 (x3 + 1)) ∧ (w32 (x3 + 1)) < (N : Int)) ∧ call m_M_ties [.inr (.inr 49), .inl (xs (w32 (x3 + 1)).toNat)] s22 (fun (r23 : Int) (s24 : Mem) =>
        (r21 = r23 →
            cut 18 [some (.inr (.inr 1000)), some (.inr (.inr 0)), some (.inr (.inr 49)), some (.inl (w32 (x3 + 6)))] [] s24) ∧
          (¬ r21 = r23 → isB 0 ∧ Q 0 s24)))) ∧
    ((andI (xs x3.toNat) 63) = 0 + 1 + 1 + 1 + 1 + 1 + 1 → (0 ≤ (w32 (x3 + 1)) ∧ (w32 (x3 + 1)) < (N : Int)) ∧ (0 ≤ (w32 (x3 + 2)) ∧ (w32 (x3 + 2)) < (N : Int)) ∧ (0 ≤ (w32 (x3 + 3)) ∧ (w32 (x3 + 3)) < (N : Int)) ∧ (0 ≤ (w32 (x3 + 4)) ∧ (w32 (x3 + 4)) < (N : Int)) ∧ call m_X_done [.inr (.inr 0), .inl (xs (w32 (x3 + 1)).toNat), .inl (xs (w32 (x3 + 2)).toNat), .inl (xs (w32 (x3 + 3)).toNat), .inl (xs (w32 (x3 + 4)).toNat)] σ (fun (r25 : Int) (s26 : Mem) =>
      (0 ≤ (w32 (x3 + 1)) ∧ (w32 (x3 + 1)) < (N : Int)) ∧ (0 ≤ (w32 (x3 + 2)) ∧ (w32 (x3 + 2)) < (N : Int)) ∧ (0 ≤ (w32 (x3 + 3)) ∧ (w32 (x3 + 3)) < (N : Int)) ∧ (0 ≤ (w32 (x3 + 4)) ∧ (w32 (x3 + 4)) < (N : Int)) ∧ call m_M_done [.inr (.inr 49), .inl (xs (w32 (x3 + 1)).toNat), .inl (xs (w32 (x3 + 2)).toNat), .inl (xs (w32 (x3 + 3)).toNat), .inl (xs (w32 (x3 + 4)).toNat)] s26 (fun (r27 : Int) (s28 : Mem) =>
        (r25 = r27 →
            cut 18 [some (.inr (.inr 1000)), some (.inr (.inr 0)), some (.inr (.inr 49)), some (.inl (w32 (x3 + 6)))] [] s28) ∧
          (¬ r25 = r27 → isB 0 ∧ Q 0 s28)))) ∧
    ((andI (xs x3.toNat) 63) = 0 + 1 + 1 + 1 + 1 + 1 + 1 + 1 → (0 ≤ (w32 (x3 + 1)) ∧ (w32 (x3 + 1)) < (N : Int)) ∧ call m_X_put [.inr (.inr 0), .inl (xs (w32 (x3 + 1)).toNat)] σ (fun (r29 : Int) (s30 : Mem) =>
      (0 ≤ (w32 (x3 + 1)) ∧ (w32 (x3 + 1)) < (N : Int)) ∧ call m_M_put [.inr (.inr 49), .inl (xs (w32 (x3 + 1)).toNat)] s30 (fun (r31 : Int) (s32 : Mem) =>
        (r29 = r31 →
            cut 18 [some (.inr (.inr 1000)), some (.inr (.inr 0)), some (.inr (.inr 49)), some (.inl (w32 (x3 + 6)))] [] s32) ∧
          (¬ r29 = r31 → isB 0 ∧ Q 0 s32)))) ∧
    ((andI (xs x3.toNat) 63) = 0 + 1 + 1 + 1 + 1 + 1 + 1 + 1 + 1 → (0 ≤ (w32 (x3 + 1)) ∧ (w32 (x3 + 1)) < (N : Int)) ∧ call m_X_look [.inr (.inr 0), .inl (xs (w32 (x3 + 1)).toNat)] σ (fun (r33 : Int) (s34 : Mem) =>
      (0 ≤ (w32 (x3 + 1)) ∧ (w32 (x3 + 1)) < (N : Int)) ∧ call m_M_look [.inr (.inr 49), .inl (xs (w32 (x3 + 1)).toNat)] s34 (fun (r35 : Int) (s36 : Mem) =>
        (r33 = r35 →
            cut 18 [some (.inr (.inr 1000)), some (.inr (.inr 0)), some (.inr (.inr 49)), some (.inl (w32 (x3 + 6)))] [] s36) ∧
          (¬ r33 = r35 → isB 0 ∧ Q 0 s36)))) ∧
    ((andI (xs x3.toNat) 63) = 0 + 1 + 1 + 1 + 1 + 1 + 1 + 1 + 1 + 1 → (0 ≤ (w32 (x3 + 1)) ∧ (w32 (x3 + 1)) < (N : Int)) ∧ call m_X_plain [.inr (.inr 0), .inl (xs (w32 (x3 + 1)).toNat)] σ (fun (r37 : Int) (s38 : Mem) =>
      (0 ≤ (w32 (x3 + 1)) ∧ (w32 (x3 + 1)) < (N : Int)) ∧ call m_M_plain [.inr (.inr 49), .inl (xs (w32 (x3 + 1)).toNat)] s38 (fun (r39 : Int) (s40 : Mem) =>
        (r37 = r39 →
            cut 18 [some (.inr (.inr 1000)), some (.inr (.inr 0)), some (.inr (.inr 49)), some (.inl (w32 (x3 + 6)))] [] s40) ∧
          (¬ r37 = r39 → isB 0 ∧ Q 0 s40)))) ∧
    ((andI (xs x3.toNat) 63) = 0 + 1 + 1 + 1 + 1 + 1 + 1 + 1 + 1 + 1 + 1 → (0 ≤ (w32 (x3 + 1)) ∧ (w32 (x3 + 1)) < (N : Int)) ∧ call m_X_bar [.inr (.inr 0), .inl (xs (w32 (x3 + 1)).toNat)] σ (fun (r41 : Int) (s42 : Mem) =>
      (0 ≤ (w32 (x3 + 1)) ∧ (w32 (x3 + 1)) < (N : Int)) ∧ call m_M_bar [.inr (.inr 49), .inl (xs (w32 (x3 + 1)).toNat)] s42 (fun (r43 : Int) (s44 : Mem) =>
        (r41 = r43 →
            cut 18 [some (.inr (.inr 1000)), some (.inr (.inr 0)), some (.inr (.inr 49)), some (.inl (w32 (x3 + 6)))] [] s44) ∧
          (¬ r41 = r43 → isB 0 ∧ Q 0 s44)))) ∧
    ((andI (xs x3.toNat) 63) = 0 + 1 + 1 + 1 + 1 + 1 + 1 + 1 + 1 + 1 + 1 + 1 → (0 ≤ (w32 (x3 + 1)) ∧ (w32 (x3 + 1)) < (N : Int)) ∧ (0 ≤ (w32 (x3 + 2)) ∧ (w32 (x3 + 2)) < (N : Int)) ∧ (0 ≤ (w32 (x3 + 3)) ∧ (w32 (x3 + 3)) < (N : Int)) ∧ call m_X_mix [.inr (.inr 0), .inl (xs (w32 (x3 + 1)).toNat), .inl (xs (w32 (x3 + 2)).toNat), .inl (xs (w32 (x3 + 3)).toNat)] σ (fun (r45 : Int) (s46 : Mem) =>
      (0 ≤ (w32 (x3 + 1)) ∧ (w32 (x3 + 1)) < (N : Int)) ∧ (0 ≤ (w32 (x3 + 2)) ∧ (w32 (x3 + 2)) < (N : Int)) ∧ (0 ≤ (w32 (x3 + 3)) ∧ (w32 (x3 + 3)) < (N : Int)) ∧ call m_M_mix [.inr (.inr 49), .inl (xs (w32 (x3 + 1)).toNat), .inl (xs (w32 (x3 + 2)).toNat), .inl (xs (w32 (x3 + 3)).toNat)] s46 (fun (r47 : Int) (s48 : Mem) =>
        (r45 = r47 →
            cut 18 [some (.inr (.inr 1000)), some (.inr (.inr 0)), some (.inr (.inr 49)), some (.inl (w32 (x3 + 6)))] [] s48) ∧
          (¬ r45 = r47 → isB 0 ∧ Q 0 s48)))) ∧
    ((andI (xs x3.toNat) 63) = 0 + 1 + 1 + 1 + 1 + 1 + 1 + 1 + 1 + 1 + 1 + 1 + 1 → (0 ≤ (w32 (x3 + 1)) ∧ (w32 (x3 + 1)) < (N : Int)) ∧ (0 ≤ (w32 (x3 + 2)) ∧ (w32 (x3 + 2)) < (N : Int)) ∧ (0 ≤ (w32 (x3 + 3)) ∧ (w32 (x3 + 3)) < (N : Int)) ∧ call m_X_meld [.inr (.inr 0), .inl (xs (w32 (x3 + 1)).toNat), .inl (xs (w32 (x3 + 2)).toNat), .inl (xs (w32 (x3 + 3)).toNat)] σ (fun (r49 : Int) (s50 : Mem) =>
      (0 ≤ (w32 (x3 + 1)) ∧ (w32 (x3 + 1)) < (N : Int)) ∧ (0 ≤ (w32 (x3 + 2)) ∧ (w32 (x3 + 2)) < (N : Int)) ∧ (0 ≤ (w32 (x3 + 3)) ∧ (w32 (x3 + 3)) < (N : Int)) ∧ call m_M_meld [.inr (.inr 49), .inl (xs (w32 (x3 + 1)).toNat), .inl (xs (w32 (x3 + 2)).toNat), .inl (xs (w32 (x3 + 3)).toNat)] s50 (fun (r51 : Int) (s52 : Mem) =>
        (r49 = r51 →
            cut 18 [some (.inr (.inr 1000)), some (.inr (.inr 0)), some (.inr (.inr 49)), some (.inl (w32 (x3 + 6)))] [] s52) ∧
          (¬ r49 = r51 → isB 0 ∧ Q 0 s52)))) ∧
    ((andI (xs x3.toNat) 63) = 0 + 1 + 1 + 1 + 1 + 1 + 1 + 1 + 1 + 1 + 1 + 1 + 1 + 1 → (0 ≤ (w32 (x3 + 1)) ∧ (w32 (x3 + 1)) < (N : Int)) ∧ call m_X_signs [.inr (.inr 0), .inl (xs (w32 (x3 + 1)).toNat)] σ (fun (r53 : Int) (s54 : Mem) =>
      (0 ≤ (w32 (x3 + 1)) ∧ (w32 (x3 + 1)) < (N : Int)) ∧ call m_M_signs [.inr (.inr 49), .inl (xs (w32 (x3 + 1)).toNat)] s54 (fun (r55 : Int) (s56 : Mem) =>
        (r53 = r55 →
            cut 18 [some (.inr (.inr 1000)), some (.inr (.inr 0)), some (.inr (.inr 49)), some (.inl (w32 (x3 + 6)))] [] s56) ∧
          (¬ r53 = r55 → isB 0 ∧ Q 0 s56)))) ∧
    ((andI (xs x3.toNat) 63) = 0 + 1 + 1 + 1 + 1 + 1 + 1 + 1 + 1 + 1 + 1 + 1 + 1 + 1 + 1 → (0 ≤ (w32 (x3 + 1)) ∧ (w32 (x3 + 1)) < (N : Int)) ∧ (0 ≤ (w32 (x3 + 2)) ∧ (w32 (x3 + 2)) < (N : Int)) ∧ (0 ≤ (w32 (x3 + 3)) ∧ (w32 (x3 + 3)) < (N : Int)) ∧ call m_X_parts [.inr (.inr 0), .inl (xs (w32 (x3 + 1)).toNat), .inl (xs (w32 (x3 + 2)).toNat), .inl (xs (w32 (x3 + 3)).toNat)] σ (fun (r57 : Int) (s58 : Mem) =>
      (0 ≤ (w32 (x3 + 1)) ∧ (w32 (x3 + 1)) < (N : Int)) ∧ (0 ≤ (w32 (x3 + 2)) ∧ (w32 (x3 + 2)) < (N : Int)) ∧ (0 ≤ (w32 (x3 + 3)) ∧ (w32 (x3 + 3)) < (N : Int)) ∧ call m_M_parts [.inr (.inr 49), .inl (xs (w32 (x3 + 1)).toNat), .inl (xs (w32 (x3 + 2)).toNat), .inl (xs (w32 (x3 + 3)).toNat)] s58 (fun (r59 : Int) (s60 : Mem) =>
        (r57 = r59 →
            cut 18 [some (.inr (.inr 1000)), some (.inr (.inr 0)), some (.inr (.inr 49)), some (.inl (w32 (x3 + 6)))] [] s60) ∧
          (¬ r57 = r59 → isB 0 ∧ Q 0 s60)))) ∧
    ((andI (xs x3.toNat) 63) = 0 + 1 + 1 + 1 + 1 + 1 + 1 + 1 + 1 + 1 + 1 + 1 + 1 + 1 + 1 + 1 → (0 ≤ (w32 (x3 + 1)) ∧ (w32 (x3 + 1)) < (N : Int)) ∧ (0 ≤ (w32 (x3 + 2)) ∧ (w32 (x3 + 2)) < (N : Int)) ∧ (0 ≤ (w32 (x3 + 3)) ∧ (w32 (x3 + 3)) < (N : Int)) ∧ call m_X_leaves [.inr (.inr 0), .inl (xs (w32 (x3 + 1)).toNat), .inl (xs (w32 (x3 + 2)).toNat), .inl (xs (w32 (x3 + 3)).toNat)] σ (fun (r61 : Int) (s62 : Mem) =>
      (0 ≤ (w32 (x3 + 1)) ∧ (w32 (x3 + 1)) < (N : Int)) ∧ (0 ≤ (w32 (x3 + 2)) ∧ (w32 (x3 + 2)) < (N : Int)) ∧ (0 ≤ (w32 (x3 + 3)) ∧ (w32 (x3 + 3)) < (N : Int)) ∧ call m_M_leaves [.inr (.inr 49), .inl (xs (w32 (x3 + 1)).toNat), .inl (xs (w32 (x3 + 2)).toNat), .inl (xs (w32 (x3 + 3)).toNat)] s62 (fun (r63 : Int) (s64 : Mem) =>
        (r61 = r63 →
            cut 18 [some (.inr (.inr 1000)), some (.inr (.inr 0)), some (.inr (.inr 49)), some (.inl (w32 (x3 + 6)))] [] s64) ∧
          (¬ r61 = r63 → isB 0 ∧ Q 0 s64)))) ∧
    ((andI (xs x3.toNat) 63) = 0 + 1 + 1 + 1 + 1 + 1 + 1 + 1 + 1 + 1 + 1 + 1 + 1 + 1 + 1 + 1 + 1 → (0 ≤ (w32 (x3 + 1)) ∧ (w32 (x3 + 1)) < (N : Int)) ∧ (0 ≤ (w32 (x3 + 2)) ∧ (w32 (x3 + 2)) < (N : Int)) ∧ call m_X_does [.inr (.inr 0), .inl (xs (w32 (x3 + 1)).toNat), .inl (xs (w32 (x3 + 2)).toNat)] σ (fun (r65 : Int) (s66 : Mem) =>
      (0 ≤ (w32 (x3 + 1)) ∧ (w32 (x3 + 1)) < (N : Int)) ∧ (0 ≤ (w32 (x3 + 2)) ∧ (w32 (x3 + 2)) < (N : Int)) ∧ call m_M_does [.inr (.inr 49), .inl (xs (w32 (x3 + 1)).toNat), .inl (xs (w32 (x3 + 2)).toNat)] s66 (fun (r67 : Int) (s68 : Mem) =>
        (r65 = r67 →
            cut 18 [some (.inr (.inr 1000)), some (.inr (.inr 0)), some (.inr (.inr 49)), some (.inl (w32 (x3 + 6)))] [] s68) ∧
          (¬ r65 = r67 → isB 0 ∧ Q 0 s68)))) ∧
    ((andI (xs x3.toNat) 63) = 0 + 1 + 1 + 1 + 1 + 1 + 1 + 1 + 1 + 1 + 1 + 1 + 1 + 1 + 1 + 1 + 1 + 1 → (0 ≤ (w32 (x3 + 1)) ∧ (w32 (x3 + 1)) < (N : Int)) ∧ (0 ≤ (w32 (x3 + 2)) ∧ (w32 (x3 + 2)) < (N : Int)) ∧ ((xs (w32 (x3 + 2)).toNat) = 0 →
        (0 ≤ (w32 (x3 + 3)) ∧ (w32 (x3 + 3)) < (N : Int)) ∧ call m_X_worth [.inr (.inr 0), .inl (xs (w32 (x3 + 1)).toNat), .inl 0, .inl (xs (w32 (x3 + 3)).toNat)] σ (fun (r69 : Int) (s70 : Mem) =>
        (0 ≤ (w32 (x3 + 1)) ∧ (w32 (x3 + 1)) < (N : Int)) ∧ (0 ≤ (w32 (x3 + 2)) ∧ (w32 (x3 + 2)) < (N : Int)) ∧ ((xs (w32 (x3 + 2)).toNat) = 0 →
            (0 ≤ (w32 (x3 + 3)) ∧ (w32 (x3 + 3)) < (N : Int)) ∧ call m_M_worth [.inr (.inr 49), .inl (xs (w32 (x3 + 1)).toNat), .inl 0, .inl (xs (w32 (x3 + 3)).toNat)] s70 (fun (r71 : Int) (s72 : Mem) =>
            (r69 = r71 →
                cut 18 [some (.inr (.inr 1000)), some (.inr (.inr 0)), some (.inr (.inr 49)), some (.inl (w32 (x3 + 6)))] [] s72) ∧
              (¬ r69 = r71 → isB 0 ∧ Q 0 s72))) ∧
          (¬ (xs (w32 (x3 + 2)).toNat) = 0 →
            (0 ≤ (w32 (x3 + 3)) ∧ (w32 (x3 + 3)) < (N : Int)) ∧ call m_M_worth [.inr (.inr 49), .inl (xs (w32 (x3 + 1)).toNat), .inl 1, .inl (xs (w32 (x3 + 3)).toNat)] s70 (fun (r73 : Int) (s74 : Mem) =>
            (r69 = r73 →
                cut 18 [some (.inr (.inr 1000)), some (.inr (.inr 0)), some (.inr (.inr 49)), some (.inl (w32 (x3 + 6)))] [] s74) ∧
              (¬ r69 = r73 → isB 0 ∧ Q 0 s74))))) ∧
      (¬ (xs (w32 (x3 + 2)).toNat) = 0 →
        (0 ≤ (w32 (x3 + 3)) ∧ (w32 (x3 + 3)) < (N : Int)) ∧ call m_X_worth [.inr (.inr 0), .inl (xs (w32 (x3 + 1)).toNat), .inl 1, .inl (xs (w32 (x3 + 3)).toNat)] σ (fun (r75 : Int) (s76 : Mem) =>
        (0 ≤ (w32 (x3 + 1)) ∧ (w32 (x3 + 1)) < (N : Int)) ∧ (0 ≤ (w32 (x3 + 2)) ∧ (w32 (x3 + 2)) < (N : Int)) ∧ ((xs (w32 (x3 + 2)).toNat) = 0 →
            (0 ≤ (w32 (x3 + 3)) ∧ (w32 (x3 + 3)) < (N : Int)) ∧ call m_M_worth [.inr (.inr 49), .inl (xs (w32 (x3 + 1)).toNat), .inl 0, .inl (xs (w32 (x3 + 3)).toNat)] s76 (fun (r77 : Int) (s78 : Mem) =>
            (r75 = r77 →
                cut 18 [some (.inr (.inr 1000)), some (.inr (.inr 0)), some (.inr (.inr 49)), some (.inl (w32 (x3 + 6)))] [] s78) ∧
              (¬ r75 = r77 → isB 0 ∧ Q 0 s78))) ∧
          (¬ (xs (w32 (x3 + 2)).toNat) = 0 →
            (0 ≤ (w32 (x3 + 3)) ∧ (w32 (x3 + 3)) < (N : Int)) ∧ call m_M_worth [.inr (.inr 49), .inl (xs (w32 (x3 + 1)).toNat), .inl 1, .inl (xs (w32 (x3 + 3)).toNat)] s76 (fun (r79 : Int) (s80 : Mem) =>
            (r75 = r79 →
                cut 18 [some (.inr (.inr 1000)), some (.inr (.inr 0)), some (.inr (.inr 49)), some (.inl (w32 (x3 + 6)))] [] s80) ∧
              (¬ r75 = r79 → isB 0 ∧ Q 0 s80)))))) ∧
    ((andI (xs x3.toNat) 63) = 0 + 1 + 1 + 1 + 1 + 1 + 1 + 1 + 1 + 1 + 1 + 1 + 1 + 1 + 1 + 1 + 1 + 1 + 1 → (0 ≤ (w32 (x3 + 1)) ∧ (w32 (x3 + 1)) < (N : Int)) ∧ (0 ≤ (w32 (x3 + 2)) ∧ (w32 (x3 + 2)) < (N : Int)) ∧ call m_X_harm [.inr (.inr 0), .inl (xs (w32 (x3 + 1)).toNat), .inl (xs (w32 (x3 + 2)).toNat)] σ (fun (r81 : Int) (s82 : Mem) =>
      (0 ≤ (w32 (x3 + 1)) ∧ (w32 (x3 + 1)) < (N : Int)) ∧ (0 ≤ (w32 (x3 + 2)) ∧ (w32 (x3 + 2)) < (N : Int)) ∧ call m_M_harm [.inr (.inr 49), .inl (xs (w32 (x3 + 1)).toNat), .inl (xs (w32 (x3 + 2)).toNat)] s82 (fun (r83 : Int) (s84 : Mem) =>
        (r81 = r83 →
            cut 18 [some (.inr (.inr 1000)), some (.inr (.inr 0)), some (.inr (.inr 49)), some (.inl (w32 (x3 + 6)))] [] s84) ∧
          (¬ r81 = r83 → isB 0 ∧ Q 0 s84)))) ∧
    ((andI (xs x3.toNat) 63) = 0 + 1 + 1 + 1 + 1 + 1 + 1 + 1 + 1 + 1 + 1 + 1 + 1 + 1 + 1 + 1 + 1 + 1 + 1 + 1 → (0 ≤ (w32 (x3 + 1)) ∧ (w32 (x3 + 1)) < (N : Int)) ∧ (0 ≤ (w32 (x3 + 2)) ∧ (w32 (x3 + 2)) < (N : Int)) ∧ (0 ≤ (w32 (x3 + 3)) ∧ (w32 (x3 + 3)) < (N : Int)) ∧ (0 ≤ (w32 (x3 + 4)) ∧ (w32 (x3 + 4)) < (N : Int)) ∧ (0 ≤ (w32 (x3 + 5)) ∧ (w32 (x3 + 5)) < (N : Int)) ∧ call m_X_think [.inr (.inr 0), .inl (xs (w32 (x3 + 1)).toNat), .inl (xs (w32 (x3 + 2)).toNat), .inl (xs (w32 (x3 + 3)).toNat), .inl (xs (w32 (x3 + 4)).toNat), .inl (xs (w32 (x3 + 5)).toNat)] σ (fun (r85 : Int) (s86 : Mem) =>
      (0 ≤ (w32 (x3 + 1)) ∧ (w32 (x3 + 1)) < (N : Int)) ∧ (0 ≤ (w32 (x3 + 2)) ∧ (w32 (x3 + 2)) < (N : Int)) ∧ (0 ≤ (w32 (x3 + 3)) ∧ (w32 (x3 + 3)) < (N : Int)) ∧ (0 ≤ (w32 (x3 + 4)) ∧ (w32 (x3 + 4)) < (N : Int)) ∧ (0 ≤ (w32 (x3 + 5)) ∧ (w32 (x3 + 5)) < (N : Int)) ∧ call m_M_think [.inr (.inr 49), .inl (xs (w32 (x3 + 1)).toNat), .inl (xs (w32 (x3 + 2)).toNat), .inl (xs (w32 (x3 + 3)).toNat), .inl (xs (w32 (x3 + 4)).toNat), .inl (xs (w32 (x3 + 5)).toNat)] s86 (fun (r87 : Int) (s88 : Mem) =>
        (r85 = r87 →
            cut 18 [some (.inr (.inr 1000)), some (.inr (.inr 0)), some (.inr (.inr 49)), some (.inl (w32 (x3 + 6)))] [] s88) ∧
          (¬ r85 = r87 → isB 0 ∧ Q 0 s88)))) ∧
    ((andI (xs x3.toNat) 63) = 0 + 1 + 1 + 1 + 1 + 1 + 1 + 1 + 1 + 1 + 1 + 1 + 1 + 1 + 1 + 1 + 1 + 1 + 1 + 1 + 1 → call m_X_forget [.inr (.inr 0)] σ (fun (r89 : Int) (s90 : Mem) =>
      call m_M_forget [.inr (.inr 49)] s90 (fun (r91 : Int) (s92 : Mem) =>
        (r89 = r91 →
            cut 18 [some (.inr (.inr 1000)), some (.inr (.inr 0)), some (.inr (.inr 49)), some (.inl (w32 (x3 + 6)))] [] s92) ∧
          (¬ r89 = r91 → isB 0 ∧ Q 0 s92)))) ∧
    ((andI (xs x3.toNat) 63) = 0 + 1 + 1 + 1 + 1 + 1 + 1 + 1 + 1 + 1 + 1 + 1 + 1 + 1 + 1 + 1 + 1 + 1 + 1 + 1 + 1 + 1 → call m_X_made [.inr (.inr 0)] σ (fun (r93 : Int) (s94 : Mem) =>
      call m_M_made [.inr (.inr 49)] s94 (fun (r95 : Int) (s96 : Mem) =>
        (r93 = r95 →
            cut 18 [some (.inr (.inr 1000)), some (.inr (.inr 0)), some (.inr (.inr 49)), some (.inl (w32 (x3 + 6)))] [] s96) ∧
          (¬ r93 = r95 → isB 0 ∧ Q 0 s96)))) ∧
    ((andI (xs x3.toNat) 63) = 0 + 1 + 1 + 1 + 1 + 1 + 1 + 1 + 1 + 1 + 1 + 1 + 1 + 1 + 1 + 1 + 1 + 1 + 1 + 1 + 1 + 1 + 1 → (0 ≤ (w32 (x3 + 1)) ∧ (w32 (x3 + 1)) < (N : Int)) ∧ (0 ≤ (w32 (x3 + 2)) ∧ (w32 (x3 + 2)) < (N : Int)) ∧ (0 ≤ (w32 (x3 + 3)) ∧ (w32 (x3 + 3)) < (N : Int)) ∧ call m_X_chance [.inr (.inr 0), .inl (xs (w32 (x3 + 1)).toNat), .inl (xs (w32 (x3 + 2)).toNat), .inl (xs (w32 (x3 + 3)).toNat)] σ (fun (r97 : Int) (s98 : Mem) =>
      (0 ≤ (w32 (x3 + 1)) ∧ (w32 (x3 + 1)) < (N : Int)) ∧ (0 ≤ (w32 (x3 + 2)) ∧ (w32 (x3 + 2)) < (N : Int)) ∧ (0 ≤ (w32 (x3 + 3)) ∧ (w32 (x3 + 3)) < (N : Int)) ∧ call m_M_chance [.inr (.inr 49), .inl (xs (w32 (x3 + 1)).toNat), .inl (xs (w32 (x3 + 2)).toNat), .inl (xs (w32 (x3 + 3)).toNat)] s98 (fun (r99 : Int) (s100 : Mem) =>
        (r97 = r99 →
            cut 18 [some (.inr (.inr 1000)), some (.inr (.inr 0)), some (.inr (.inr 49)), some (.inl (w32 (x3 + 6)))] [] s100) ∧
          (¬ r97 = r99 → isB 0 ∧ Q 0 s100)))) ∧
    ((andI (xs x3.toNat) 63) = 0 + 1 + 1 + 1 + 1 + 1 + 1 + 1 + 1 + 1 + 1 + 1 + 1 + 1 + 1 + 1 + 1 + 1 + 1 + 1 + 1 + 1 + 1 + 1 → call m_X_edges [.inr (.inr 0)] σ (fun (r101 : Int) (s102 : Mem) =>
      call m_M_edges [.inr (.inr 49)] s102 (fun (r103 : Int) (s104 : Mem) =>
        (r101 = r103 →
            cut 18 [some (.inr (.inr 1000)), some (.inr (.inr 0)), some (.inr (.inr 49)), some (.inl (w32 (x3 + 6)))] [] s104) ∧
          (¬ r101 = r103 → isB 0 ∧ Q 0 s104)))) ∧
    ((andI (xs x3.toNat) 63) = 0 + 1 + 1 + 1 + 1 + 1 + 1 + 1 + 1 + 1 + 1 + 1 + 1 + 1 + 1 + 1 + 1 + 1 + 1 + 1 + 1 + 1 + 1 + 1 + 1 → (0 ≤ (w32 (x3 + 1)) ∧ (w32 (x3 + 1)) < (N : Int)) ∧ (0 ≤ (w32 (x3 + 2)) ∧ (w32 (x3 + 2)) < (N : Int)) ∧ call m_X_edge [.inr (.inr 0), .inl (xs (w32 (x3 + 1)).toNat), .inl (xs (w32 (x3 + 2)).toNat)] σ (fun (r105 : Int) (s106 : Mem) =>
      (0 ≤ (w32 (x3 + 1)) ∧ (w32 (x3 + 1)) < (N : Int)) ∧ (0 ≤ (w32 (x3 + 2)) ∧ (w32 (x3 + 2)) < (N : Int)) ∧ call m_M_edge [.inr (.inr 49), .inl (xs (w32 (x3 + 1)).toNat), .inl (xs (w32 (x3 + 2)).toNat)] s106 (fun (r107 : Int) (s108 : Mem) =>
        (r105 = r107 →
            cut 18 [some (.inr (.inr 1000)), some (.inr (.inr 0)), some (.inr (.inr 49)), some (.inl (w32 (x3 + 6)))] [] s108) ∧
          (¬ r105 = r107 → isB 0 ∧ Q 0 s108)))) ∧
    ((andI (xs x3.toNat) 63) = 0 + 1 + 1 + 1 + 1 + 1 + 1 + 1 + 1 + 1 + 1 + 1 + 1 + 1 + 1 + 1 + 1 + 1 + 1 + 1 + 1 + 1 + 1 + 1 + 1 + 1 → (0 ≤ (w32 (x3 + 1)) ∧ (w32 (x3 + 1)) < (N : Int)) ∧ (0 ≤ (w32 (x3 + 2)) ∧ (w32 (x3 + 2)) < (N : Int)) ∧ call m_X_value [.inr (.inr 0), .inl (xs (w32 (x3 + 1)).toNat), .inl (xs (w32 (x3 + 2)).toNat)] σ (fun (r109 : Int) (s110 : Mem) =>
      (0 ≤ (w32 (x3 + 1)) ∧ (w32 (x3 + 1)) < (N : Int)) ∧ (0 ≤ (w32 (x3 + 2)) ∧ (w32 (x3 + 2)) < (N : Int)) ∧ call m_M_value [.inr (.inr 49), .inl (xs (w32 (x3 + 1)).toNat), .inl (xs (w32 (x3 + 2)).toNat)] s110 (fun (r111 : Int) (s112 : Mem) =>
        (r109 = r111 →
            cut 18 [some (.inr (.inr 1000)), some (.inr (.inr 0)), some (.inr (.inr 49)), some (.inl (w32 (x3 + 6)))] [] s112) ∧
          (¬ r109 = r111 → isB 0 ∧ Q 0 s112)))) ∧
    ((andI (xs x3.toNat) 63) = 0 + 1 + 1 + 1 + 1 + 1 + 1 + 1 + 1 + 1 + 1 + 1 + 1 + 1 + 1 + 1 + 1 + 1 + 1 + 1 + 1 + 1 + 1 + 1 + 1 + 1 + 1 → (0 ≤ (w32 (x3 + 1)) ∧ (w32 (x3 + 1)) < (N : Int)) ∧ (0 ≤ (w32 (x3 + 2)) ∧ (w32 (x3 + 2)) < (N : Int)) ∧ call m_X_best [.inr (.inr 0), .inl (xs (w32 (x3 + 1)).toNat), .inl (xs (w32 (x3 + 2)).toNat)] σ (fun (r113 : Int) (s114 : Mem) =>
      (0 ≤ (w32 (x3 + 1)) ∧ (w32 (x3 + 1)) < (N : Int)) ∧ (0 ≤ (w32 (x3 + 2)) ∧ (w32 (x3 + 2)) < (N : Int)) ∧ call m_M_best [.inr (.inr 49), .inl (xs (w32 (x3 + 1)).toNat), .inl (xs (w32 (x3 + 2)).toNat)] s114 (fun (r115 : Int) (s116 : Mem) =>
        (r113 = r115 →
            cut 18 [some (.inr (.inr 1000)), some (.inr (.inr 0)), some (.inr (.inr 49)), some (.inl (w32 (x3 + 6)))] [] s116) ∧
          (¬ r113 = r115 → isB 0 ∧ Q 0 s116)))) ∧
    ((andI (xs x3.toNat) 63) = 0 + 1 + 1 + 1 + 1 + 1 + 1 + 1 + 1 + 1 + 1 + 1 + 1 + 1 + 1 + 1 + 1 + 1 + 1 + 1 + 1 + 1 + 1 + 1 + 1 + 1 + 1 + 1 → call m_X_corners [.inr (.inr 0)] σ (fun (r117 : Int) (s118 : Mem) =>
      call m_M_corners [.inr (.inr 49)] s118 (fun (r119 : Int) (s120 : Mem) =>
        (r117 = r119 →
            cut 18 [some (.inr (.inr 1000)), some (.inr (.inr 0)), some (.inr (.inr 49)), some (.inl (w32 (x3 + 6)))] [] s120) ∧
          (¬ r117 = r119 → isB 0 ∧ Q 0 s120)))) ∧
    ((andI (xs x3.toNat) 63) = 0 + 1 + 1 + 1 + 1 + 1 + 1 + 1 + 1 + 1 + 1 + 1 + 1 + 1 + 1 + 1 + 1 + 1 + 1 + 1 + 1 + 1 + 1 + 1 + 1 + 1 + 1 + 1 + 1 → (0 ≤ (w32 (x3 + 1)) ∧ (w32 (x3 + 1)) < (N : Int)) ∧ (0 ≤ (w32 (x3 + 2)) ∧ (w32 (x3 + 2)) < (N : Int)) ∧ (0 ≤ (w32 (x3 + 3)) ∧ (w32 (x3 + 3)) < (N : Int)) ∧ (0 ≤ (w32 (x3 + 4)) ∧ (w32 (x3 + 4)) < (N : Int)) ∧ call m_X_prove [.inr (.inr 0), .inl (xs (w32 (x3 + 1)).toNat), .inl (xs (w32 (x3 + 2)).toNat), .inl (xs (w32 (x3 + 3)).toNat), .inl (xs (w32 (x3 + 4)).toNat)] σ (fun (r121 : Int) (s122 : Mem) =>
      (0 ≤ (w32 (x3 + 1)) ∧ (w32 (x3 + 1)) < (N : Int)) ∧ (0 ≤ (w32 (x3 + 2)) ∧ (w32 (x3 + 2)) < (N : Int)) ∧ (0 ≤ (w32 (x3 + 3)) ∧ (w32 (x3 + 3)) < (N : Int)) ∧ (0 ≤ (w32 (x3 + 4)) ∧ (w32 (x3 + 4)) < (N : Int)) ∧ call m_M_prove [.inr (.inr 49), .inl (xs (w32 (x3 + 1)).toNat), .inl (xs (w32 (x3 + 2)).toNat), .inl (xs (w32 (x3 + 3)).toNat), .inl (xs (w32 (x3 + 4)).toNat)] s122 (fun (r123 : Int) (s124 : Mem) =>
        (r121 = r123 →
            cut 18 [some (.inr (.inr 1000)), some (.inr (.inr 0)), some (.inr (.inr 49)), some (.inl (w32 (x3 + 6)))] [] s124) ∧
          (¬ r121 = r123 → isB 0 ∧ Q 0 s124)))) ∧
    ((andI (xs x3.toNat) 63) = 0 + 1 + 1 + 1 + 1 + 1 + 1 + 1 + 1 + 1 + 1 + 1 + 1 + 1 + 1 + 1 + 1 + 1 + 1 + 1 + 1 + 1 + 1 + 1 + 1 + 1 + 1 + 1 + 1 + 1 → (0 ≤ (w32 (x3 + 1)) ∧ (w32 (x3 + 1)) < (N : Int)) ∧ (0 ≤ (w32 (x3 + 2)) ∧ (w32 (x3 + 2)) < (N : Int)) ∧ call m_X_test [.inr (.inr 0), .inl (xs (w32 (x3 + 1)).toNat), .inl (xs (w32 (x3 + 2)).toNat)] σ (fun (r125 : Int) (s126 : Mem) =>
      (0 ≤ (w32 (x3 + 1)) ∧ (w32 (x3 + 1)) < (N : Int)) ∧ (0 ≤ (w32 (x3 + 2)) ∧ (w32 (x3 + 2)) < (N : Int)) ∧ call m_M_test [.inr (.inr 49), .inl (xs (w32 (x3 + 1)).toNat), .inl (xs (w32 (x3 + 2)).toNat)] s126 (fun (r127 : Int) (s128 : Mem) =>
        (r125 = r127 →
            cut 18 [some (.inr (.inr 1000)), some (.inr (.inr 0)), some (.inr (.inr 49)), some (.inl (w32 (x3 + 6)))] [] s128) ∧
          (¬ r125 = r127 → isB 0 ∧ Q 0 s128)))) ∧
    ((andI (xs x3.toNat) 63) = 0 + 1 + 1 + 1 + 1 + 1 + 1 + 1 + 1 + 1 + 1 + 1 + 1 + 1 + 1 + 1 + 1 + 1 + 1 + 1 + 1 + 1 + 1 + 1 + 1 + 1 + 1 + 1 + 1 + 1 + 1 → (0 ≤ (w32 (x3 + 1)) ∧ (w32 (x3 + 1)) < (N : Int)) ∧ (0 ≤ (w32 (x3 + 2)) ∧ (w32 (x3 + 2)) < (N : Int)) ∧ call m_X_set [.inr (.inr 0), .inl (xs (w32 (x3 + 1)).toNat), .inl (xs (w32 (x3 + 2)).toNat)] σ (fun (r129 : Int) (s130 : Mem) =>
      (0 ≤ (w32 (x3 + 1)) ∧ (w32 (x3 + 1)) < (N : Int)) ∧ (0 ≤ (w32 (x3 + 2)) ∧ (w32 (x3 + 2)) < (N : Int)) ∧ call m_M_set [.inr (.inr 49), .inl (xs (w32 (x3 + 1)).toNat), .inl (xs (w32 (x3 + 2)).toNat)] s130 (fun (r131 : Int) (s132 : Mem) =>
        (r129 = r131 →
            cut 18 [some (.inr (.inr 1000)), some (.inr (.inr 0)), some (.inr (.inr 49)), some (.inl (w32 (x3 + 6)))] [] s132) ∧
          (¬ r129 = r131 → isB 0 ∧ Q 0 s132)))) ∧
    ((andI (xs x3.toNat) 63) = 0 + 1 + 1 + 1 + 1 + 1 + 1 + 1 + 1 + 1 + 1 + 1 + 1 + 1 + 1 + 1 + 1 + 1 + 1 + 1 + 1 + 1 + 1 + 1 + 1 + 1 + 1 + 1 + 1 + 1 + 1 + 1 → call m_X_chosen [.inr (.inr 0)] σ (fun (r133 : Int) (s134 : Mem) =>
      call m_M_chosen [.inr (.inr 49)] s134 (fun (r135 : Int) (s136 : Mem) =>
        (r133 = r135 →
            cut 18 [some (.inr (.inr 1000)), some (.inr (.inr 0)), some (.inr (.inr 49)), some (.inl (w32 (x3 + 6)))] [] s136) ∧
          (¬ r133 = r135 → isB 0 ∧ Q 0 s136)))) ∧
    ((andI (xs x3.toNat) 63) = 0 + 1 + 1 + 1 + 1 + 1 + 1 + 1 + 1 + 1 + 1 + 1 + 1 + 1 + 1 + 1 + 1 + 1 + 1 + 1 + 1 + 1 + 1 + 1 + 1 + 1 + 1 + 1 + 1 + 1 + 1 + 1 + 1 → (0 ≤ (w32 (x3 + 1)) ∧ (w32 (x3 + 1)) < (N : Int)) ∧ (0 ≤ (w32 (x3 + 2)) ∧ (w32 (x3 + 2)) < (N : Int)) ∧ call m_X_enough [.inr (.inr 0), .inl (xs (w32 (x3 + 1)).toNat), .inl (xs (w32 (x3 + 2)).toNat)] σ (fun (r137 : Int) (s138 : Mem) =>
      (0 ≤ (w32 (x3 + 1)) ∧ (w32 (x3 + 1)) < (N : Int)) ∧ (0 ≤ (w32 (x3 + 2)) ∧ (w32 (x3 + 2)) < (N : Int)) ∧ call m_M_enough [.inr (.inr 49), .inl (xs (w32 (x3 + 1)).toNat), .inl (xs (w32 (x3 + 2)).toNat)] s138 (fun (r139 : Int) (s140 : Mem) =>
        (r137 = r139 →
            cut 18 [some (.inr (.inr 1000)), some (.inr (.inr 0)), some (.inr (.inr 49)), some (.inl (w32 (x3 + 6)))] [] s140) ∧
          (¬ r137 = r139 → isB 0 ∧ Q 0 s140)))) ∧
    ((andI (xs x3.toNat) 63) = 0 + 1 + 1 + 1 + 1 + 1 + 1 + 1 + 1 + 1 + 1 + 1 + 1 + 1 + 1 + 1 + 1 + 1 + 1 + 1 + 1 + 1 + 1 + 1 + 1 + 1 + 1 + 1 + 1 + 1 + 1 + 1 + 1 + 1 → (0 ≤ (w32 (x3 + 1)) ∧ (w32 (x3 + 1)) < (N : Int)) ∧ (0 ≤ (w32 (x3 + 2)) ∧ (w32 (x3 + 2)) < (N : Int)) ∧ (0 ≤ (w32 (x3 + 3)) ∧ (w32 (x3 + 3)) < (N : Int)) ∧ call m_X_hear [.inr (.inr 0), .inl (xs (w32 (x3 + 1)).toNat), .inl (xs (w32 (x3 + 2)).toNat), .inl (xs (w32 (x3 + 3)).toNat)] σ (fun (r141 : Int) (s142 : Mem) =>
      (0 ≤ (w32 (x3 + 1)) ∧ (w32 (x3 + 1)) < (N : Int)) ∧ (0 ≤ (w32 (x3 + 2)) ∧ (w32 (x3 + 2)) < (N : Int)) ∧ (0 ≤ (w32 (x3 + 3)) ∧ (w32 (x3 + 3)) < (N : Int)) ∧ call m_M_hear [.inr (.inr 49), .inl (xs (w32 (x3 + 1)).toNat), .inl (xs (w32 (x3 + 2)).toNat), .inl (xs (w32 (x3 + 3)).toNat)] s142 (fun (r143 : Int) (s144 : Mem) =>
        (r141 = r143 →
            cut 18 [some (.inr (.inr 1000)), some (.inr (.inr 0)), some (.inr (.inr 49)), some (.inl (w32 (x3 + 6)))] [] s144) ∧
          (¬ r141 = r143 → isB 0 ∧ Q 0 s144)))) ∧
    ((andI (xs x3.toNat) 63) = 0 + 1 + 1 + 1 + 1 + 1 + 1 + 1 + 1 + 1 + 1 + 1 + 1 + 1 + 1 + 1 + 1 + 1 + 1 + 1 + 1 + 1 + 1 + 1 + 1 + 1 + 1 + 1 + 1 + 1 + 1 + 1 + 1 + 1 + 1 → (0 ≤ (w32 (x3 + 1)) ∧ (w32 (x3 + 1)) < (N : Int)) ∧ (0 ≤ (w32 (x3 + 2)) ∧ (w32 (x3 + 2)) < (N : Int)) ∧ (0 ≤ (w32 (x3 + 3)) ∧ (w32 (x3 + 3)) < (N : Int)) ∧ ((xs (w32 (x3 + 3)).toNat) = 0 →
        (0 ≤ (w32 (x3 + 4)) ∧ (w32 (x3 + 4)) < (N : Int)) ∧ call m_X_knows [.inr (.inr 0), .inl (xs (w32 (x3 + 1)).toNat), .inl (xs (w32 (x3 + 2)).toNat), .inl 0, .inl (xs (w32 (x3 + 4)).toNat)] σ (fun (r145 : Int) (s146 : Mem) =>
        (0 ≤ (w32 (x3 + 1)) ∧ (w32 (x3 + 1)) < (N : Int)) ∧ (0 ≤ (w32 (x3 + 2)) ∧ (w32 (x3 + 2)) < (N : Int)) ∧ (0 ≤ (w32 (x3 + 3)) ∧ (w32 (x3 + 3)) < (N : Int)) ∧ ((xs (w32 (x3 + 3)).toNat) = 0 →
            (0 ≤ (w32 (x3 + 4)) ∧ (w32 (x3 + 4)) < (N : Int)) ∧ call m_M_knows [.inr (.inr 49), .inl (xs (w32 (x3 + 1)).toNat), .inl (xs (w32 (x3 + 2)).toNat), .inl 0, .inl (xs (w32 (x3 + 4)).toNat)] s146 (fun (r147 : Int) (s148 : Mem) =>
            (r145 = r147 →
                cut 18 [some (.inr (.inr 1000)), some (.inr (.inr 0)), some (.inr (.inr 49)), some (.inl (w32 (x3 + 6)))] [] s148) ∧
              (¬ r145 = r147 → isB 0 ∧ Q 0 s148))) ∧
          (¬ (xs (w32 (x3 + 3)).toNat) = 0 →
            (0 ≤ (w32 (x3 + 4)) ∧ (w32 (x3 + 4)) < (N : Int)) ∧ call m_M_knows [.inr (.inr 49), .inl (xs (w32 (x3 + 1)).toNat), .inl (xs (w32 (x3 + 2)).toNat), .inl 1, .inl (xs (w32 (x3 + 4)).toNat)] s146 (fun (r149 : Int) (s150 : Mem) =>
            (r145 = r149 →
                cut 18 [some (.inr (.inr 1000)), some (.inr (.inr 0)), some (.inr (.inr 49)), some (.inl (w32 (x3 + 6)))] [] s150) ∧
              (¬ r145 = r149 → isB 0 ∧ Q 0 s150))))) ∧
      (¬ (xs (w32 (x3 + 3)).toNat) = 0 →
        (0 ≤ (w32 (x3 + 4)) ∧ (w32 (x3 + 4)) < (N : Int)) ∧ call m_X_knows [.inr (.inr 0), .inl (xs (w32 (x3 + 1)).toNat), .inl (xs (w32 (x3 + 2)).toNat), .inl 1, .inl (xs (w32 (x3 + 4)).toNat)] σ (fun (r151 : Int) (s152 : Mem) =>
        (0 ≤ (w32 (x3 + 1)) ∧ (w32 (x3 + 1)) < (N : Int)) ∧ (0 ≤ (w32 (x3 + 2)) ∧ (w32 (x3 + 2)) < (N : Int)) ∧ (0 ≤ (w32 (x3 + 3)) ∧ (w32 (x3 + 3)) < (N : Int)) ∧ ((xs (w32 (x3 + 3)).toNat) = 0 →
            (0 ≤ (w32 (x3 + 4)) ∧ (w32 (x3 + 4)) < (N : Int)) ∧ call m_M_knows [.inr (.inr 49), .inl (xs (w32 (x3 + 1)).toNat), .inl (xs (w32 (x3 + 2)).toNat), .inl 0, .inl (xs (w32 (x3 + 4)).toNat)] s152 (fun (r153 : Int) (s154 : Mem) =>
            (r151 = r153 →
                cut 18 [some (.inr (.inr 1000)), some (.inr (.inr 0)), some (.inr (.inr 49)), some (.inl (w32 (x3 + 6)))] [] s154) ∧
              (¬ r151 = r153 → isB 0 ∧ Q 0 s154))) ∧
          (¬ (xs (w32 (x3 + 3)).toNat) = 0 →
            (0 ≤ (w32 (x3 + 4)) ∧ (w32 (x3 + 4)) < (N : Int)) ∧ call m_M_knows [.inr (.inr 49), .inl (xs (w32 (x3 + 1)).toNat), .inl (xs (w32 (x3 + 2)).toNat), .inl 1, .inl (xs (w32 (x3 + 4)).toNat)] s152 (fun (r155 : Int) (s156 : Mem) =>
            (r151 = r155 →
                cut 18 [some (.inr (.inr 1000)), some (.inr (.inr 0)), some (.inr (.inr 49)), some (.inl (w32 (x3 + 6)))] [] s156) ∧
              (¬ r151 = r155 → isB 0 ∧ Q 0 s156)))))) ∧
    ((andI (xs x3.toNat) 63) = 0 + 1 + 1 + 1 + 1 + 1 + 1 + 1 + 1 + 1 + 1 + 1 + 1 + 1 + 1 + 1 + 1 + 1 + 1 + 1 + 1 + 1 + 1 + 1 + 1 + 1 + 1 + 1 + 1 + 1 + 1 + 1 + 1 + 1 + 1 + 1 → (0 ≤ (w32 (x3 + 1)) ∧ (w32 (x3 + 1)) < (N : Int)) ∧ (0 ≤ (w32 (x3 + 2)) ∧ (w32 (x3 + 2)) < (N : Int)) ∧ (0 ≤ (w32 (x3 + 3)) ∧ (w32 (x3 + 3)) < (N : Int)) ∧ call m_X_rests [.inr (.inr 0), .inl (xs (w32 (x3 + 1)).toNat), .inl (xs (w32 (x3 + 2)).toNat), .inl (xs (w32 (x3 + 3)).toNat)] σ (fun (r157 : Int) (s158 : Mem) =>
      (0 ≤ (w32 (x3 + 1)) ∧ (w32 (x3 + 1)) < (N : Int)) ∧ (0 ≤ (w32 (x3 + 2)) ∧ (w32 (x3 + 2)) < (N : Int)) ∧ (0 ≤ (w32 (x3 + 3)) ∧ (w32 (x3 + 3)) < (N : Int)) ∧ call m_M_rests [.inr (.inr 49), .inl (xs (w32 (x3 + 1)).toNat), .inl (xs (w32 (x3 + 2)).toNat), .inl (xs (w32 (x3 + 3)).toNat)] s158 (fun (r159 : Int) (s160 : Mem) =>
        (r157 = r159 →
            cut 18 [some (.inr (.inr 1000)), some (.inr (.inr 0)), some (.inr (.inr 49)), some (.inl (w32 (x3 + 6)))] [] s160) ∧
          (¬ r157 = r159 → isB 0 ∧ Q 0 s160)))) ∧
    ((andI (xs x3.toNat) 63) = 0 + 1 + 1 + 1 + 1 + 1 + 1 + 1 + 1 + 1 + 1 + 1 + 1 + 1 + 1 + 1 + 1 + 1 + 1 + 1 + 1 + 1 + 1 + 1 + 1 + 1 + 1 + 1 + 1 + 1 + 1 + 1 + 1 + 1 + 1 + 1 + 1 → (0 ≤ (w32 (x3 + 1)) ∧ (w32 (x3 + 1)) < (N : Int)) ∧ call m_X_shown [.inr (.inr 0), .inl (xs (w32 (x3 + 1)).toNat)] σ (fun (r161 : Int) (s162 : Mem) =>
      (0 ≤ (w32 (x3 + 1)) ∧ (w32 (x3 + 1)) < (N : Int)) ∧ call m_M_shown [.inr (.inr 49), .inl (xs (w32 (x3 + 1)).toNat)] s162 (fun (r163 : Int) (s164 : Mem) =>
        (r161 = r163 →
            cut 18 [some (.inr (.inr 1000)), some (.inr (.inr 0)), some (.inr (.inr 49)), some (.inl (w32 (x3 + 6)))] [] s164) ∧
          (¬ r161 = r163 → isB 0 ∧ Q 0 s164)))) ∧
    ((andI (xs x3.toNat) 63) = 0 + 1 + 1 + 1 + 1 + 1 + 1 + 1 + 1 + 1 + 1 + 1 + 1 + 1 + 1 + 1 + 1 + 1 + 1 + 1 + 1 + 1 + 1 + 1 + 1 + 1 + 1 + 1 + 1 + 1 + 1 + 1 + 1 + 1 + 1 + 1 + 1 + 1 → (0 ≤ (w32 (x3 + 1)) ∧ (w32 (x3 + 1)) < (N : Int)) ∧ (0 ≤ (w32 (x3 + 2)) ∧ (w32 (x3 + 2)) < (N : Int)) ∧ call m_X_law [.inr (.inr 0), .inl (xs (w32 (x3 + 1)).toNat), .inl (xs (w32 (x3 + 2)).toNat)] σ (fun (r165 : Int) (s166 : Mem) =>
      (0 ≤ (w32 (x3 + 1)) ∧ (w32 (x3 + 1)) < (N : Int)) ∧ (0 ≤ (w32 (x3 + 2)) ∧ (w32 (x3 + 2)) < (N : Int)) ∧ call m_M_law [.inr (.inr 49), .inl (xs (w32 (x3 + 1)).toNat), .inl (xs (w32 (x3 + 2)).toNat)] s166 (fun (r167 : Int) (s168 : Mem) =>
        (r165 = r167 →
            cut 18 [some (.inr (.inr 1000)), some (.inr (.inr 0)), some (.inr (.inr 49)), some (.inl (w32 (x3 + 6)))] [] s168) ∧
          (¬ r165 = r167 → isB 0 ∧ Q 0 s168)))) ∧
    ((andI (xs x3.toNat) 63) = 0 + 1 + 1 + 1 + 1 + 1 + 1 + 1 + 1 + 1 + 1 + 1 + 1 + 1 + 1 + 1 + 1 + 1 + 1 + 1 + 1 + 1 + 1 + 1 + 1 + 1 + 1 + 1 + 1 + 1 + 1 + 1 + 1 + 1 + 1 + 1 + 1 + 1 + 1 → (0 ≤ (w32 (x3 + 1)) ∧ (w32 (x3 + 1)) < (N : Int)) ∧ (0 ≤ (w32 (x3 + 2)) ∧ (w32 (x3 + 2)) < (N : Int)) ∧ (0 ≤ (w32 (x3 + 3)) ∧ (w32 (x3 + 3)) < (N : Int)) ∧ (0 ≤ (w32 (x3 + 4)) ∧ (w32 (x3 + 4)) < (N : Int)) ∧ call m_X_time [.inr (.inr 0), .inl (xs (w32 (x3 + 1)).toNat), .inl (xs (w32 (x3 + 2)).toNat), .inl (xs (w32 (x3 + 3)).toNat), .inl (xs (w32 (x3 + 4)).toNat)] σ (fun (r169 : Int) (s170 : Mem) =>
      (0 ≤ (w32 (x3 + 1)) ∧ (w32 (x3 + 1)) < (N : Int)) ∧ (0 ≤ (w32 (x3 + 2)) ∧ (w32 (x3 + 2)) < (N : Int)) ∧ (0 ≤ (w32 (x3 + 3)) ∧ (w32 (x3 + 3)) < (N : Int)) ∧ (0 ≤ (w32 (x3 + 4)) ∧ (w32 (x3 + 4)) < (N : Int)) ∧ call m_M_time [.inr (.inr 49), .inl (xs (w32 (x3 + 1)).toNat), .inl (xs (w32 (x3 + 2)).toNat), .inl (xs (w32 (x3 + 3)).toNat), .inl (xs (w32 (x3 + 4)).toNat)] s170 (fun (r171 : Int) (s172 : Mem) =>
        (r169 = r171 →
            cut 18 [some (.inr (.inr 1000)), some (.inr (.inr 0)), some (.inr (.inr 49)), some (.inl (w32 (x3 + 6)))] [] s172) ∧
          (¬ r169 = r171 → isB 0 ∧ Q 0 s172)))) ∧
    ((andI (xs x3.toNat) 63) = 0 + 1 + 1 + 1 + 1 + 1 + 1 + 1 + 1 + 1 + 1 + 1 + 1 + 1 + 1 + 1 + 1 + 1 + 1 + 1 + 1 + 1 + 1 + 1 + 1 + 1 + 1 + 1 + 1 + 1 + 1 + 1 + 1 + 1 + 1 + 1 + 1 + 1 + 1 + 1 → call m_X_undo [.inr (.inr 0)] σ (fun (r173 : Int) (s174 : Mem) =>
      call m_M_undo [.inr (.inr 49)] s174 (fun (r175 : Int) (s176 : Mem) =>
        (r173 = r175 →
            cut 18 [some (.inr (.inr 1000)), some (.inr (.inr 0)), some (.inr (.inr 49)), some (.inl (w32 (x3 + 6)))] [] s176) ∧
          (¬ r173 = r175 → isB 0 ∧ Q 0 s176)))) ∧
    ((andI (xs x3.toNat) 63) = 0 + 1 + 1 + 1 + 1 + 1 + 1 + 1 + 1 + 1 + 1 + 1 + 1 + 1 + 1 + 1 + 1 + 1 + 1 + 1 + 1 + 1 + 1 + 1 + 1 + 1 + 1 + 1 + 1 + 1 + 1 + 1 + 1 + 1 + 1 + 1 + 1 + 1 + 1 + 1 + 1 → call m_X_image [.inr (.inr 0)] σ (fun (r177 : Int) (s178 : Mem) =>
      call m_M_image [.inr (.inr 49)] s178 (fun (r179 : Int) (s180 : Mem) =>
        (r177 = r179 →
            cut 18 [some (.inr (.inr 1000)), some (.inr (.inr 0)), some (.inr (.inr 49)), some (.inl (w32 (x3 + 6)))] [] s180) ∧
          (¬ r177 = r179 → isB 0 ∧ Q 0 s180)))) ∧
    ((andI (xs x3.toNat) 63) = 0 + 1 + 1 + 1 + 1 + 1 + 1 + 1 + 1 + 1 + 1 + 1 + 1 + 1 + 1 + 1 + 1 + 1 + 1 + 1 + 1 + 1 + 1 + 1 + 1 + 1 + 1 + 1 + 1 + 1 + 1 + 1 + 1 + 1 + 1 + 1 + 1 + 1 + 1 + 1 + 1 + 1 → call m_X_on [.inr (.inr 0)] σ (fun (r181 : Int) (s182 : Mem) =>
      call m_M_on [.inr (.inr 49)] s182 (fun (r183 : Int) (s184 : Mem) =>
        (r181 = r183 →
            cut 18 [some (.inr (.inr 1000)), some (.inr (.inr 0)), some (.inr (.inr 49)), some (.inl (w32 (x3 + 6)))] [] s184) ∧
          (¬ r181 = r183 → isB 0 ∧ Q 0 s184)))) ∧
    ((andI (xs x3.toNat) 63) = 0 + 1 + 1 + 1 + 1 + 1 + 1 + 1 + 1 + 1 + 1 + 1 + 1 + 1 + 1 + 1 + 1 + 1 + 1 + 1 + 1 + 1 + 1 + 1 + 1 + 1 + 1 + 1 + 1 + 1 + 1 + 1 + 1 + 1 + 1 + 1 + 1 + 1 + 1 + 1 + 1 + 1 + 1 → (0 ≤ (w32 (x3 + 1)) ∧ (w32 (x3 + 1)) < (N : Int)) ∧ call m_X_count [.inr (.inr 0), .inl (xs (w32 (x3 + 1)).toNat)] σ (fun (r185 : Int) (s186 : Mem) =>
      (0 ≤ (w32 (x3 + 1)) ∧ (w32 (x3 + 1)) < (N : Int)) ∧ call m_M_count [.inr (.inr 49), .inl (xs (w32 (x3 + 1)).toNat)] s186 (fun (r187 : Int) (s188 : Mem) =>
        (r185 = r187 →
            cut 18 [some (.inr (.inr 1000)), some (.inr (.inr 0)), some (.inr (.inr 49)), some (.inl (w32 (x3 + 6)))] [] s188) ∧
          (¬ r185 = r187 → isB 0 ∧ Q 0 s188)))) ∧ True)) : seg (some (N, xs)) call c_law true Q cut 2000 true (toPc 18 c_law) [some (.inr (.inr 1000)), some (.inr (.inr 0)), some (.inr (.inr 49)), some (.inl x3)] [] σ := h
set_option maxRecDepth 100000 in
set_option maxHeartbeats 16000000 in
theorem e_law_18 {N : Nat} {xs : Nat → Int} {d : Nat} {Q : Int → Mem → Prop} {x3 : Int} {σ : Mem} (h :
  ((w32 ((N : Int) - 6)) < x3 → Q 1 σ) ∧
  (x3 ≤ (w32 ((N : Int) - 6)) →
    (0 ≤ x3 ∧ x3 < (N : Int)) ∧ ((andI (xs x3.toNat) 63) < 0 ∨ 42 < (andI (xs x3.toNat) 63) → K_law_18 N xs d Q (w32 (x3 + 6)) σ) ∧
    ((andI (xs x3.toNat) 63) = 0 → (0 ≤ (w32 (x3 + 1)) ∧ (w32 (x3 + 1)) < (N : Int)) ∧ (0 ≤ (w32 (x3 + 2)) ∧ (w32 (x3 + 2)) < (N : Int)) ∧ (0 ≤ (w32 (x3 + 3)) ∧ (w32 (x3 + 3)) < (N : Int)) ∧ wp d m_X_feed [.inr (.inr 0), .inl (xs (w32 (x3 + 1)).toNat), .inr (.inl (orL (shlL (xs (w32 (x3 + 2)).toNat) 32) (andL (xs (w32 (x3 + 3)).toNat) 4294967295)))] σ (fun (r1 : Int) (s2 : Mem) =>
      (0 ≤ (w32 (x3 + 1)) ∧ (w32 (x3 + 1)) < (N : Int)) ∧ (0 ≤ (w32 (x3 + 2)) ∧ (w32 (x3 + 2)) < (N : Int)) ∧ (0 ≤ (w32 (x3 + 3)) ∧ (w32 (x3 + 3)) < (N : Int)) ∧ wp d m_M_feed [.inr (.inr 49), .inl (xs (w32 (x3 + 1)).toNat), .inr (.inl (orL (shlL (xs (w32 (x3 + 2)).toNat) 32) (andL (xs (w32 (x3 + 3)).toNat) 4294967295)))] s2 (fun (r3 : Int) (s4 : Mem) =>
        (r1 = r3 → K_law_18 N xs d Q (w32 (x3 + 6)) s4) ∧
          (¬ r1 = r3 → Q 0 s4)))) ∧
    ((andI (xs x3.toNat) 63) = 1 → wp d m_X_read [.inr (.inr 0)] σ (fun (r5 : Int) (s6 : Mem) =>
      wp d m_M_read [.inr (.inr 49)] s6 (fun (r7 : Int) (s8 : Mem) =>
        (r5 = r7 → K_law_18 N xs d Q (w32 (x3 + 6)) s8) ∧
          (¬ r5 = r7 → Q 0 s8)))) ∧
    ((andI (xs x3.toNat) 63) = 2 → (0 ≤ (w32 (x3 + 1)) ∧ (w32 (x3 + 1)) < (N : Int)) ∧ wp d m_X_weight [.inr (.inr 0), .inl (xs (w32 (x3 + 1)).toNat)] σ (fun (r9 : Int) (s10 : Mem) =>
      (0 ≤ (w32 (x3 + 1)) ∧ (w32 (x3 + 1)) < (N : Int)) ∧ wp d m_M_weight [.inr (.inr 49), .inl (xs (w32 (x3 + 1)).toNat)] s10 (fun (r11 : Int) (s12 : Mem) =>
        (r9 = r11 → K_law_18 N xs d Q (w32 (x3 + 6)) s12) ∧
          (¬ r9 = r11 → Q 0 s12)))) ∧
    ((andI (xs x3.toNat) 63) = 3 → (0 ≤ (w32 (x3 + 1)) ∧ (w32 (x3 + 1)) < (N : Int)) ∧ (0 ≤ (w32 (x3 + 2)) ∧ (w32 (x3 + 2)) < (N : Int)) ∧ (0 ≤ (w32 (x3 + 3)) ∧ (w32 (x3 + 3)) < (N : Int)) ∧ wp d m_X_gets [.inr (.inr 0), .inl (xs (w32 (x3 + 1)).toNat), .inl (xs (w32 (x3 + 2)).toNat), .inl (xs (w32 (x3 + 3)).toNat)] σ (fun (r13 : Int) (s14 : Mem) =>
      (0 ≤ (w32 (x3 + 1)) ∧ (w32 (x3 + 1)) < (N : Int)) ∧ (0 ≤ (w32 (x3 + 2)) ∧ (w32 (x3 + 2)) < (N : Int)) ∧ (0 ≤ (w32 (x3 + 3)) ∧ (w32 (x3 + 3)) < (N : Int)) ∧ wp d m_M_gets [.inr (.inr 49), .inl (xs (w32 (x3 + 1)).toNat), .inl (xs (w32 (x3 + 2)).toNat), .inl (xs (w32 (x3 + 3)).toNat)] s14 (fun (r15 : Int) (s16 : Mem) =>
        (r13 = r15 → K_law_18 N xs d Q (w32 (x3 + 6)) s16) ∧
          (¬ r13 = r15 → Q 0 s16)))) ∧
    ((andI (xs x3.toNat) 63) = 4 → (0 ≤ (w32 (x3 + 1)) ∧ (w32 (x3 + 1)) < (N : Int)) ∧ (0 ≤ (w32 (x3 + 2)) ∧ (w32 (x3 + 2)) < (N : Int)) ∧ (0 ≤ (w32 (x3 + 3)) ∧ (w32 (x3 + 3)) < (N : Int)) ∧ wp d m_X_second [.inr (.inr 0), .inl (xs (w32 (x3 + 1)).toNat), .inl (xs (w32 (x3 + 2)).toNat), .inl (xs (w32 (x3 + 3)).toNat)] σ (fun (r17 : Int) (s18 : Mem) =>
      (0 ≤ (w32 (x3 + 1)) ∧ (w32 (x3 + 1)) < (N : Int)) ∧ (0 ≤ (w32 (x3 + 2)) ∧ (w32 (x3 + 2)) < (N : Int)) ∧ (0 ≤ (w32 (x3 + 3)) ∧ (w32 (x3 + 3)) < (N : Int)) ∧ wp d m_M_second [.inr (.inr 49), .inl (xs (w32 (x3 + 1)).toNat), .inl (xs (w32 (x3 + 2)).toNat), .inl (xs (w32 (x3 + 3)).toNat)] s18 (fun (r19 : Int) (s20 : Mem) =>
        (r17 = r19 → K_law_18 N xs d Q (w32 (x3 + 6)) s20) ∧
          (¬ r17 = r19 → Q 0 s20)))) ∧
    ((andI (xs x3.toNat) 63) = 5 → (0 ≤ (w32 (x3 + 1)) ∧ (w32 (x3 + 1)) < (N : Int)) ∧ wp d m_X_ties [.inr (.inr 0), .inl (xs (w32 (x3 + 1)).toNat)] σ (fun (r21 : Int) (s22 : Mem) =>
      (0 ≤ (w32 (x3 + 1)) ∧ (w32 (x3 + 1)) < (N : Int)) ∧ wp d m_M_ties [.inr (.inr 49), .inl (xs (w32 (x3 + 1)).toNat)] s22 (fun (r23 : Int) (s24 : Mem) =>
        (r21 = r23 → K_law_18 N xs d Q (w32 (x3 + 6)) s24) ∧
          (¬ r21 = r23 → Q 0 s24)))) ∧
    ((andI (xs x3.toNat) 63) = 6 → (0 ≤ (w32 (x3 + 1)) ∧ (w32 (x3 + 1)) < (N : Int)) ∧ (0 ≤ (w32 (x3 + 2)) ∧ (w32 (x3 + 2)) < (N : Int)) ∧ (0 ≤ (w32 (x3 + 3)) ∧ (w32 (x3 + 3)) < (N : Int)) ∧ (0 ≤ (w32 (x3 + 4)) ∧ (w32 (x3 + 4)) < (N : Int)) ∧ wp d m_X_done [.inr (.inr 0), .inl (xs (w32 (x3 + 1)).toNat), .inl (xs (w32 (x3 + 2)).toNat), .inl (xs (w32 (x3 + 3)).toNat), .inl (xs (w32 (x3 + 4)).toNat)] σ (fun (r25 : Int) (s26 : Mem) =>
      (0 ≤ (w32 (x3 + 1)) ∧ (w32 (x3 + 1)) < (N : Int)) ∧ (0 ≤ (w32 (x3 + 2)) ∧ (w32 (x3 + 2)) < (N : Int)) ∧ (0 ≤ (w32 (x3 + 3)) ∧ (w32 (x3 + 3)) < (N : Int)) ∧ (0 ≤ (w32 (x3 + 4)) ∧ (w32 (x3 + 4)) < (N : Int)) ∧ wp d m_M_done [.inr (.inr 49), .inl (xs (w32 (x3 + 1)).toNat), .inl (xs (w32 (x3 + 2)).toNat), .inl (xs (w32 (x3 + 3)).toNat), .inl (xs (w32 (x3 + 4)).toNat)] s26 (fun (r27 : Int) (s28 : Mem) =>
        (r25 = r27 → K_law_18 N xs d Q (w32 (x3 + 6)) s28) ∧
          (¬ r25 = r27 → Q 0 s28)))) ∧
    ((andI (xs x3.toNat) 63) = 7 → (0 ≤ (w32 (x3 + 1)) ∧ (w32 (x3 + 1)) < (N : Int)) ∧ wp d m_X_put [.inr (.inr 0), .inl (xs (w32 (x3 + 1)).toNat)] σ (fun (r29 : Int) (s30 : Mem) =>
      (0 ≤ (w32 (x3 + 1)) ∧ (w32 (x3 + 1)) < (N : Int)) ∧ wp d m_M_put [.inr (.inr 49), .inl (xs (w32 (x3 + 1)).toNat)] s30 (fun (r31 : Int) (s32 : Mem) =>
        (r29 = r31 → K_law_18 N xs d Q (w32 (x3 + 6)) s32) ∧
          (¬ r29 = r31 → Q 0 s32)))) ∧
    ((andI (xs x3.toNat) 63) = 8 → (0 ≤ (w32 (x3 + 1)) ∧ (w32 (x3 + 1)) < (N : Int)) ∧ wp d m_X_look [.inr (.inr 0), .inl (xs (w32 (x3 + 1)).toNat)] σ (fun (r33 : Int) (s34 : Mem) =>
      (0 ≤ (w32 (x3 + 1)) ∧ (w32 (x3 + 1)) < (N : Int)) ∧ wp d m_M_look [.inr (.inr 49), .inl (xs (w32 (x3 + 1)).toNat)] s34 (fun (r35 : Int) (s36 : Mem) =>
        (r33 = r35 → K_law_18 N xs d Q (w32 (x3 + 6)) s36) ∧
          (¬ r33 = r35 → Q 0 s36)))) ∧
    ((andI (xs x3.toNat) 63) = 9 → (0 ≤ (w32 (x3 + 1)) ∧ (w32 (x3 + 1)) < (N : Int)) ∧ wp d m_X_plain [.inr (.inr 0), .inl (xs (w32 (x3 + 1)).toNat)] σ (fun (r37 : Int) (s38 : Mem) =>
      (0 ≤ (w32 (x3 + 1)) ∧ (w32 (x3 + 1)) < (N : Int)) ∧ wp d m_M_plain [.inr (.inr 49), .inl (xs (w32 (x3 + 1)).toNat)] s38 (fun (r39 : Int) (s40 : Mem) =>
        (r37 = r39 → K_law_18 N xs d Q (w32 (x3 + 6)) s40) ∧
          (¬ r37 = r39 → Q 0 s40)))) ∧
    ((andI (xs x3.toNat) 63) = 10 → (0 ≤ (w32 (x3 + 1)) ∧ (w32 (x3 + 1)) < (N : Int)) ∧ wp d m_X_bar [.inr (.inr 0), .inl (xs (w32 (x3 + 1)).toNat)] σ (fun (r41 : Int) (s42 : Mem) =>
      (0 ≤ (w32 (x3 + 1)) ∧ (w32 (x3 + 1)) < (N : Int)) ∧ wp d m_M_bar [.inr (.inr 49), .inl (xs (w32 (x3 + 1)).toNat)] s42 (fun (r43 : Int) (s44 : Mem) =>
        (r41 = r43 → K_law_18 N xs d Q (w32 (x3 + 6)) s44) ∧
          (¬ r41 = r43 → Q 0 s44)))) ∧
    ((andI (xs x3.toNat) 63) = 11 → (0 ≤ (w32 (x3 + 1)) ∧ (w32 (x3 + 1)) < (N : Int)) ∧ (0 ≤ (w32 (x3 + 2)) ∧ (w32 (x3 + 2)) < (N : Int)) ∧ (0 ≤ (w32 (x3 + 3)) ∧ (w32 (x3 + 3)) < (N : Int)) ∧ wp d m_X_mix [.inr (.inr 0), .inl (xs (w32 (x3 + 1)).toNat), .inl (xs (w32 (x3 + 2)).toNat), .inl (xs (w32 (x3 + 3)).toNat)] σ (fun (r45 : Int) (s46 : Mem) =>
      (0 ≤ (w32 (x3 + 1)) ∧ (w32 (x3 + 1)) < (N : Int)) ∧ (0 ≤ (w32 (x3 + 2)) ∧ (w32 (x3 + 2)) < (N : Int)) ∧ (0 ≤ (w32 (x3 + 3)) ∧ (w32 (x3 + 3)) < (N : Int)) ∧ wp d m_M_mix [.inr (.inr 49), .inl (xs (w32 (x3 + 1)).toNat), .inl (xs (w32 (x3 + 2)).toNat), .inl (xs (w32 (x3 + 3)).toNat)] s46 (fun (r47 : Int) (s48 : Mem) =>
        (r45 = r47 → K_law_18 N xs d Q (w32 (x3 + 6)) s48) ∧
          (¬ r45 = r47 → Q 0 s48)))) ∧
    ((andI (xs x3.toNat) 63) = 12 → (0 ≤ (w32 (x3 + 1)) ∧ (w32 (x3 + 1)) < (N : Int)) ∧ (0 ≤ (w32 (x3 + 2)) ∧ (w32 (x3 + 2)) < (N : Int)) ∧ (0 ≤ (w32 (x3 + 3)) ∧ (w32 (x3 + 3)) < (N : Int)) ∧ wp d m_X_meld [.inr (.inr 0), .inl (xs (w32 (x3 + 1)).toNat), .inl (xs (w32 (x3 + 2)).toNat), .inl (xs (w32 (x3 + 3)).toNat)] σ (fun (r49 : Int) (s50 : Mem) =>
      (0 ≤ (w32 (x3 + 1)) ∧ (w32 (x3 + 1)) < (N : Int)) ∧ (0 ≤ (w32 (x3 + 2)) ∧ (w32 (x3 + 2)) < (N : Int)) ∧ (0 ≤ (w32 (x3 + 3)) ∧ (w32 (x3 + 3)) < (N : Int)) ∧ wp d m_M_meld [.inr (.inr 49), .inl (xs (w32 (x3 + 1)).toNat), .inl (xs (w32 (x3 + 2)).toNat), .inl (xs (w32 (x3 + 3)).toNat)] s50 (fun (r51 : Int) (s52 : Mem) =>
        (r49 = r51 → K_law_18 N xs d Q (w32 (x3 + 6)) s52) ∧
          (¬ r49 = r51 → Q 0 s52)))) ∧
    ((andI (xs x3.toNat) 63) = 13 → (0 ≤ (w32 (x3 + 1)) ∧ (w32 (x3 + 1)) < (N : Int)) ∧ wp d m_X_signs [.inr (.inr 0), .inl (xs (w32 (x3 + 1)).toNat)] σ (fun (r53 : Int) (s54 : Mem) =>
      (0 ≤ (w32 (x3 + 1)) ∧ (w32 (x3 + 1)) < (N : Int)) ∧ wp d m_M_signs [.inr (.inr 49), .inl (xs (w32 (x3 + 1)).toNat)] s54 (fun (r55 : Int) (s56 : Mem) =>
        (r53 = r55 → K_law_18 N xs d Q (w32 (x3 + 6)) s56) ∧
          (¬ r53 = r55 → Q 0 s56)))) ∧
    ((andI (xs x3.toNat) 63) = 14 → (0 ≤ (w32 (x3 + 1)) ∧ (w32 (x3 + 1)) < (N : Int)) ∧ (0 ≤ (w32 (x3 + 2)) ∧ (w32 (x3 + 2)) < (N : Int)) ∧ (0 ≤ (w32 (x3 + 3)) ∧ (w32 (x3 + 3)) < (N : Int)) ∧ wp d m_X_parts [.inr (.inr 0), .inl (xs (w32 (x3 + 1)).toNat), .inl (xs (w32 (x3 + 2)).toNat), .inl (xs (w32 (x3 + 3)).toNat)] σ (fun (r57 : Int) (s58 : Mem) =>
      (0 ≤ (w32 (x3 + 1)) ∧ (w32 (x3 + 1)) < (N : Int)) ∧ (0 ≤ (w32 (x3 + 2)) ∧ (w32 (x3 + 2)) < (N : Int)) ∧ (0 ≤ (w32 (x3 + 3)) ∧ (w32 (x3 + 3)) < (N : Int)) ∧ wp d m_M_parts [.inr (.inr 49), .inl (xs (w32 (x3 + 1)).toNat), .inl (xs (w32 (x3 + 2)).toNat), .inl (xs (w32 (x3 + 3)).toNat)] s58 (fun (r59 : Int) (s60 : Mem) =>
        (r57 = r59 → K_law_18 N xs d Q (w32 (x3 + 6)) s60) ∧
          (¬ r57 = r59 → Q 0 s60)))) ∧
    ((andI (xs x3.toNat) 63) = 15 → (0 ≤ (w32 (x3 + 1)) ∧ (w32 (x3 + 1)) < (N : Int)) ∧ (0 ≤ (w32 (x3 + 2)) ∧ (w32 (x3 + 2)) < (N : Int)) ∧ (0 ≤ (w32 (x3 + 3)) ∧ (w32 (x3 + 3)) < (N : Int)) ∧ wp d m_X_leaves [.inr (.inr 0), .inl (xs (w32 (x3 + 1)).toNat), .inl (xs (w32 (x3 + 2)).toNat), .inl (xs (w32 (x3 + 3)).toNat)] σ (fun (r61 : Int) (s62 : Mem) =>
      (0 ≤ (w32 (x3 + 1)) ∧ (w32 (x3 + 1)) < (N : Int)) ∧ (0 ≤ (w32 (x3 + 2)) ∧ (w32 (x3 + 2)) < (N : Int)) ∧ (0 ≤ (w32 (x3 + 3)) ∧ (w32 (x3 + 3)) < (N : Int)) ∧ wp d m_M_leaves [.inr (.inr 49), .inl (xs (w32 (x3 + 1)).toNat), .inl (xs (w32 (x3 + 2)).toNat), .inl (xs (w32 (x3 + 3)).toNat)] s62 (fun (r63 : Int) (s64 : Mem) =>
        (r61 = r63 → K_law_18 N xs d Q (w32 (x3 + 6)) s64) ∧
          (¬ r61 = r63 → Q 0 s64)))) ∧
    ((andI (xs x3.toNat) 63) = 16 → (0 ≤ (w32 (x3 + 1)) ∧ (w32 (x3 + 1)) < (N : Int)) ∧ (0 ≤ (w32 (x3 + 2)) ∧ (w32 (x3 + 2)) < (N : Int)) ∧ wp d m_X_does [.inr (.inr 0), .inl (xs (w32 (x3 + 1)).toNat), .inl (xs (w32 (x3 + 2)).toNat)] σ (fun (r65 : Int) (s66 : Mem) =>
      (0 ≤ (w32 (x3 + 1)) ∧ (w32 (x3 + 1)) < (N : Int)) ∧ (0 ≤ (w32 (x3 + 2)) ∧ (w32 (x3 + 2)) < (N : Int)) ∧ wp d m_M_does [.inr (.inr 49), .inl (xs (w32 (x3 + 1)).toNat), .inl (xs (w32 (x3 + 2)).toNat)] s66 (fun (r67 : Int) (s68 : Mem) =>
        (r65 = r67 → K_law_18 N xs d Q (w32 (x3 + 6)) s68) ∧
          (¬ r65 = r67 → Q 0 s68)))) ∧
    ((andI (xs x3.toNat) 63) = 17 → (0 ≤ (w32 (x3 + 1)) ∧ (w32 (x3 + 1)) < (N : Int)) ∧ (0 ≤ (w32 (x3 + 2)) ∧ (w32 (x3 + 2)) < (N : Int)) ∧ ((xs (w32 (x3 + 2)).toNat) = 0 →
        (0 ≤ (w32 (x3 + 3)) ∧ (w32 (x3 + 3)) < (N : Int)) ∧ wp d m_X_worth [.inr (.inr 0), .inl (xs (w32 (x3 + 1)).toNat), .inl 0, .inl (xs (w32 (x3 + 3)).toNat)] σ (fun (r69 : Int) (s70 : Mem) =>
        (0 ≤ (w32 (x3 + 1)) ∧ (w32 (x3 + 1)) < (N : Int)) ∧ (0 ≤ (w32 (x3 + 2)) ∧ (w32 (x3 + 2)) < (N : Int)) ∧ ((xs (w32 (x3 + 2)).toNat) = 0 →
            (0 ≤ (w32 (x3 + 3)) ∧ (w32 (x3 + 3)) < (N : Int)) ∧ wp d m_M_worth [.inr (.inr 49), .inl (xs (w32 (x3 + 1)).toNat), .inl 0, .inl (xs (w32 (x3 + 3)).toNat)] s70 (fun (r71 : Int) (s72 : Mem) =>
            (r69 = r71 → K_law_18 N xs d Q (w32 (x3 + 6)) s72) ∧
              (¬ r69 = r71 → Q 0 s72))) ∧
          (¬ (xs (w32 (x3 + 2)).toNat) = 0 →
            (0 ≤ (w32 (x3 + 3)) ∧ (w32 (x3 + 3)) < (N : Int)) ∧ wp d m_M_worth [.inr (.inr 49), .inl (xs (w32 (x3 + 1)).toNat), .inl 1, .inl (xs (w32 (x3 + 3)).toNat)] s70 (fun (r73 : Int) (s74 : Mem) =>
            (r69 = r73 → K_law_18 N xs d Q (w32 (x3 + 6)) s74) ∧
              (¬ r69 = r73 → Q 0 s74))))) ∧
      (¬ (xs (w32 (x3 + 2)).toNat) = 0 →
        (0 ≤ (w32 (x3 + 3)) ∧ (w32 (x3 + 3)) < (N : Int)) ∧ wp d m_X_worth [.inr (.inr 0), .inl (xs (w32 (x3 + 1)).toNat), .inl 1, .inl (xs (w32 (x3 + 3)).toNat)] σ (fun (r75 : Int) (s76 : Mem) =>
        (0 ≤ (w32 (x3 + 1)) ∧ (w32 (x3 + 1)) < (N : Int)) ∧ (0 ≤ (w32 (x3 + 2)) ∧ (w32 (x3 + 2)) < (N : Int)) ∧ ((xs (w32 (x3 + 2)).toNat) = 0 →
            (0 ≤ (w32 (x3 + 3)) ∧ (w32 (x3 + 3)) < (N : Int)) ∧ wp d m_M_worth [.inr (.inr 49), .inl (xs (w32 (x3 + 1)).toNat), .inl 0, .inl (xs (w32 (x3 + 3)).toNat)] s76 (fun (r77 : Int) (s78 : Mem) =>
            (r75 = r77 → K_law_18 N xs d Q (w32 (x3 + 6)) s78) ∧
              (¬ r75 = r77 → Q 0 s78))) ∧
          (¬ (xs (w32 (x3 + 2)).toNat) = 0 →
            (0 ≤ (w32 (x3 + 3)) ∧ (w32 (x3 + 3)) < (N : Int)) ∧ wp d m_M_worth [.inr (.inr 49), .inl (xs (w32 (x3 + 1)).toNat), .inl 1, .inl (xs (w32 (x3 + 3)).toNat)] s76 (fun (r79 : Int) (s80 : Mem) =>
            (r75 = r79 → K_law_18 N xs d Q (w32 (x3 + 6)) s80) ∧
              (¬ r75 = r79 → Q 0 s80)))))) ∧
    ((andI (xs x3.toNat) 63) = 18 → (0 ≤ (w32 (x3 + 1)) ∧ (w32 (x3 + 1)) < (N : Int)) ∧ (0 ≤ (w32 (x3 + 2)) ∧ (w32 (x3 + 2)) < (N : Int)) ∧ wp d m_X_harm [.inr (.inr 0), .inl (xs (w32 (x3 + 1)).toNat), .inl (xs (w32 (x3 + 2)).toNat)] σ (fun (r81 : Int) (s82 : Mem) =>
      (0 ≤ (w32 (x3 + 1)) ∧ (w32 (x3 + 1)) < (N : Int)) ∧ (0 ≤ (w32 (x3 + 2)) ∧ (w32 (x3 + 2)) < (N : Int)) ∧ wp d m_M_harm [.inr (.inr 49), .inl (xs (w32 (x3 + 1)).toNat), .inl (xs (w32 (x3 + 2)).toNat)] s82 (fun (r83 : Int) (s84 : Mem) =>
        (r81 = r83 → K_law_18 N xs d Q (w32 (x3 + 6)) s84) ∧
          (¬ r81 = r83 → Q 0 s84)))) ∧
    ((andI (xs x3.toNat) 63) = 19 → (0 ≤ (w32 (x3 + 1)) ∧ (w32 (x3 + 1)) < (N : Int)) ∧ (0 ≤ (w32 (x3 + 2)) ∧ (w32 (x3 + 2)) < (N : Int)) ∧ (0 ≤ (w32 (x3 + 3)) ∧ (w32 (x3 + 3)) < (N : Int)) ∧ (0 ≤ (w32 (x3 + 4)) ∧ (w32 (x3 + 4)) < (N : Int)) ∧ (0 ≤ (w32 (x3 + 5)) ∧ (w32 (x3 + 5)) < (N : Int)) ∧ wp d m_X_think [.inr (.inr 0), .inl (xs (w32 (x3 + 1)).toNat), .inl (xs (w32 (x3 + 2)).toNat), .inl (xs (w32 (x3 + 3)).toNat), .inl (xs (w32 (x3 + 4)).toNat), .inl (xs (w32 (x3 + 5)).toNat)] σ (fun (r85 : Int) (s86 : Mem) =>
      (0 ≤ (w32 (x3 + 1)) ∧ (w32 (x3 + 1)) < (N : Int)) ∧ (0 ≤ (w32 (x3 + 2)) ∧ (w32 (x3 + 2)) < (N : Int)) ∧ (0 ≤ (w32 (x3 + 3)) ∧ (w32 (x3 + 3)) < (N : Int)) ∧ (0 ≤ (w32 (x3 + 4)) ∧ (w32 (x3 + 4)) < (N : Int)) ∧ (0 ≤ (w32 (x3 + 5)) ∧ (w32 (x3 + 5)) < (N : Int)) ∧ wp d m_M_think [.inr (.inr 49), .inl (xs (w32 (x3 + 1)).toNat), .inl (xs (w32 (x3 + 2)).toNat), .inl (xs (w32 (x3 + 3)).toNat), .inl (xs (w32 (x3 + 4)).toNat), .inl (xs (w32 (x3 + 5)).toNat)] s86 (fun (r87 : Int) (s88 : Mem) =>
        (r85 = r87 → K_law_18 N xs d Q (w32 (x3 + 6)) s88) ∧
          (¬ r85 = r87 → Q 0 s88)))) ∧
    ((andI (xs x3.toNat) 63) = 20 → wp d m_X_forget [.inr (.inr 0)] σ (fun (r89 : Int) (s90 : Mem) =>
      wp d m_M_forget [.inr (.inr 49)] s90 (fun (r91 : Int) (s92 : Mem) =>
        (r89 = r91 → K_law_18 N xs d Q (w32 (x3 + 6)) s92) ∧
          (¬ r89 = r91 → Q 0 s92)))) ∧
    ((andI (xs x3.toNat) 63) = 21 → wp d m_X_made [.inr (.inr 0)] σ (fun (r93 : Int) (s94 : Mem) =>
      wp d m_M_made [.inr (.inr 49)] s94 (fun (r95 : Int) (s96 : Mem) =>
        (r93 = r95 → K_law_18 N xs d Q (w32 (x3 + 6)) s96) ∧
          (¬ r93 = r95 → Q 0 s96)))) ∧
    ((andI (xs x3.toNat) 63) = 22 → (0 ≤ (w32 (x3 + 1)) ∧ (w32 (x3 + 1)) < (N : Int)) ∧ (0 ≤ (w32 (x3 + 2)) ∧ (w32 (x3 + 2)) < (N : Int)) ∧ (0 ≤ (w32 (x3 + 3)) ∧ (w32 (x3 + 3)) < (N : Int)) ∧ wp d m_X_chance [.inr (.inr 0), .inl (xs (w32 (x3 + 1)).toNat), .inl (xs (w32 (x3 + 2)).toNat), .inl (xs (w32 (x3 + 3)).toNat)] σ (fun (r97 : Int) (s98 : Mem) =>
      (0 ≤ (w32 (x3 + 1)) ∧ (w32 (x3 + 1)) < (N : Int)) ∧ (0 ≤ (w32 (x3 + 2)) ∧ (w32 (x3 + 2)) < (N : Int)) ∧ (0 ≤ (w32 (x3 + 3)) ∧ (w32 (x3 + 3)) < (N : Int)) ∧ wp d m_M_chance [.inr (.inr 49), .inl (xs (w32 (x3 + 1)).toNat), .inl (xs (w32 (x3 + 2)).toNat), .inl (xs (w32 (x3 + 3)).toNat)] s98 (fun (r99 : Int) (s100 : Mem) =>
        (r97 = r99 → K_law_18 N xs d Q (w32 (x3 + 6)) s100) ∧
          (¬ r97 = r99 → Q 0 s100)))) ∧
    ((andI (xs x3.toNat) 63) = 23 → wp d m_X_edges [.inr (.inr 0)] σ (fun (r101 : Int) (s102 : Mem) =>
      wp d m_M_edges [.inr (.inr 49)] s102 (fun (r103 : Int) (s104 : Mem) =>
        (r101 = r103 → K_law_18 N xs d Q (w32 (x3 + 6)) s104) ∧
          (¬ r101 = r103 → Q 0 s104)))) ∧
    ((andI (xs x3.toNat) 63) = 24 → (0 ≤ (w32 (x3 + 1)) ∧ (w32 (x3 + 1)) < (N : Int)) ∧ (0 ≤ (w32 (x3 + 2)) ∧ (w32 (x3 + 2)) < (N : Int)) ∧ wp d m_X_edge [.inr (.inr 0), .inl (xs (w32 (x3 + 1)).toNat), .inl (xs (w32 (x3 + 2)).toNat)] σ (fun (r105 : Int) (s106 : Mem) =>
      (0 ≤ (w32 (x3 + 1)) ∧ (w32 (x3 + 1)) < (N : Int)) ∧ (0 ≤ (w32 (x3 + 2)) ∧ (w32 (x3 + 2)) < (N : Int)) ∧ wp d m_M_edge [.inr (.inr 49), .inl (xs (w32 (x3 + 1)).toNat), .inl (xs (w32 (x3 + 2)).toNat)] s106 (fun (r107 : Int) (s108 : Mem) =>
        (r105 = r107 → K_law_18 N xs d Q (w32 (x3 + 6)) s108) ∧
          (¬ r105 = r107 → Q 0 s108)))) ∧
    ((andI (xs x3.toNat) 63) = 25 → (0 ≤ (w32 (x3 + 1)) ∧ (w32 (x3 + 1)) < (N : Int)) ∧ (0 ≤ (w32 (x3 + 2)) ∧ (w32 (x3 + 2)) < (N : Int)) ∧ wp d m_X_value [.inr (.inr 0), .inl (xs (w32 (x3 + 1)).toNat), .inl (xs (w32 (x3 + 2)).toNat)] σ (fun (r109 : Int) (s110 : Mem) =>
      (0 ≤ (w32 (x3 + 1)) ∧ (w32 (x3 + 1)) < (N : Int)) ∧ (0 ≤ (w32 (x3 + 2)) ∧ (w32 (x3 + 2)) < (N : Int)) ∧ wp d m_M_value [.inr (.inr 49), .inl (xs (w32 (x3 + 1)).toNat), .inl (xs (w32 (x3 + 2)).toNat)] s110 (fun (r111 : Int) (s112 : Mem) =>
        (r109 = r111 → K_law_18 N xs d Q (w32 (x3 + 6)) s112) ∧
          (¬ r109 = r111 → Q 0 s112)))) ∧
    ((andI (xs x3.toNat) 63) = 26 → (0 ≤ (w32 (x3 + 1)) ∧ (w32 (x3 + 1)) < (N : Int)) ∧ (0 ≤ (w32 (x3 + 2)) ∧ (w32 (x3 + 2)) < (N : Int)) ∧ wp d m_X_best [.inr (.inr 0), .inl (xs (w32 (x3 + 1)).toNat), .inl (xs (w32 (x3 + 2)).toNat)] σ (fun (r113 : Int) (s114 : Mem) =>
      (0 ≤ (w32 (x3 + 1)) ∧ (w32 (x3 + 1)) < (N : Int)) ∧ (0 ≤ (w32 (x3 + 2)) ∧ (w32 (x3 + 2)) < (N : Int)) ∧ wp d m_M_best [.inr (.inr 49), .inl (xs (w32 (x3 + 1)).toNat), .inl (xs (w32 (x3 + 2)).toNat)] s114 (fun (r115 : Int) (s116 : Mem) =>
        (r113 = r115 → K_law_18 N xs d Q (w32 (x3 + 6)) s116) ∧
          (¬ r113 = r115 → Q 0 s116)))) ∧
    ((andI (xs x3.toNat) 63) = 27 → wp d m_X_corners [.inr (.inr 0)] σ (fun (r117 : Int) (s118 : Mem) =>
      wp d m_M_corners [.inr (.inr 49)] s118 (fun (r119 : Int) (s120 : Mem) =>
        (r117 = r119 → K_law_18 N xs d Q (w32 (x3 + 6)) s120) ∧
          (¬ r117 = r119 → Q 0 s120)))) ∧
    ((andI (xs x3.toNat) 63) = 28 → (0 ≤ (w32 (x3 + 1)) ∧ (w32 (x3 + 1)) < (N : Int)) ∧ (0 ≤ (w32 (x3 + 2)) ∧ (w32 (x3 + 2)) < (N : Int)) ∧ (0 ≤ (w32 (x3 + 3)) ∧ (w32 (x3 + 3)) < (N : Int)) ∧ (0 ≤ (w32 (x3 + 4)) ∧ (w32 (x3 + 4)) < (N : Int)) ∧ wp d m_X_prove [.inr (.inr 0), .inl (xs (w32 (x3 + 1)).toNat), .inl (xs (w32 (x3 + 2)).toNat), .inl (xs (w32 (x3 + 3)).toNat), .inl (xs (w32 (x3 + 4)).toNat)] σ (fun (r121 : Int) (s122 : Mem) =>
      (0 ≤ (w32 (x3 + 1)) ∧ (w32 (x3 + 1)) < (N : Int)) ∧ (0 ≤ (w32 (x3 + 2)) ∧ (w32 (x3 + 2)) < (N : Int)) ∧ (0 ≤ (w32 (x3 + 3)) ∧ (w32 (x3 + 3)) < (N : Int)) ∧ (0 ≤ (w32 (x3 + 4)) ∧ (w32 (x3 + 4)) < (N : Int)) ∧ wp d m_M_prove [.inr (.inr 49), .inl (xs (w32 (x3 + 1)).toNat), .inl (xs (w32 (x3 + 2)).toNat), .inl (xs (w32 (x3 + 3)).toNat), .inl (xs (w32 (x3 + 4)).toNat)] s122 (fun (r123 : Int) (s124 : Mem) =>
        (r121 = r123 → K_law_18 N xs d Q (w32 (x3 + 6)) s124) ∧
          (¬ r121 = r123 → Q 0 s124)))) ∧
    ((andI (xs x3.toNat) 63) = 29 → (0 ≤ (w32 (x3 + 1)) ∧ (w32 (x3 + 1)) < (N : Int)) ∧ (0 ≤ (w32 (x3 + 2)) ∧ (w32 (x3 + 2)) < (N : Int)) ∧ wp d m_X_test [.inr (.inr 0), .inl (xs (w32 (x3 + 1)).toNat), .inl (xs (w32 (x3 + 2)).toNat)] σ (fun (r125 : Int) (s126 : Mem) =>
      (0 ≤ (w32 (x3 + 1)) ∧ (w32 (x3 + 1)) < (N : Int)) ∧ (0 ≤ (w32 (x3 + 2)) ∧ (w32 (x3 + 2)) < (N : Int)) ∧ wp d m_M_test [.inr (.inr 49), .inl (xs (w32 (x3 + 1)).toNat), .inl (xs (w32 (x3 + 2)).toNat)] s126 (fun (r127 : Int) (s128 : Mem) =>
        (r125 = r127 → K_law_18 N xs d Q (w32 (x3 + 6)) s128) ∧
          (¬ r125 = r127 → Q 0 s128)))) ∧
    ((andI (xs x3.toNat) 63) = 30 → (0 ≤ (w32 (x3 + 1)) ∧ (w32 (x3 + 1)) < (N : Int)) ∧ (0 ≤ (w32 (x3 + 2)) ∧ (w32 (x3 + 2)) < (N : Int)) ∧ wp d m_X_set [.inr (.inr 0), .inl (xs (w32 (x3 + 1)).toNat), .inl (xs (w32 (x3 + 2)).toNat)] σ (fun (r129 : Int) (s130 : Mem) =>
      (0 ≤ (w32 (x3 + 1)) ∧ (w32 (x3 + 1)) < (N : Int)) ∧ (0 ≤ (w32 (x3 + 2)) ∧ (w32 (x3 + 2)) < (N : Int)) ∧ wp d m_M_set [.inr (.inr 49), .inl (xs (w32 (x3 + 1)).toNat), .inl (xs (w32 (x3 + 2)).toNat)] s130 (fun (r131 : Int) (s132 : Mem) =>
        (r129 = r131 → K_law_18 N xs d Q (w32 (x3 + 6)) s132) ∧
          (¬ r129 = r131 → Q 0 s132)))) ∧
    ((andI (xs x3.toNat) 63) = 31 → wp d m_X_chosen [.inr (.inr 0)] σ (fun (r133 : Int) (s134 : Mem) =>
      wp d m_M_chosen [.inr (.inr 49)] s134 (fun (r135 : Int) (s136 : Mem) =>
        (r133 = r135 → K_law_18 N xs d Q (w32 (x3 + 6)) s136) ∧
          (¬ r133 = r135 → Q 0 s136)))) ∧
    ((andI (xs x3.toNat) 63) = 32 → (0 ≤ (w32 (x3 + 1)) ∧ (w32 (x3 + 1)) < (N : Int)) ∧ (0 ≤ (w32 (x3 + 2)) ∧ (w32 (x3 + 2)) < (N : Int)) ∧ wp d m_X_enough [.inr (.inr 0), .inl (xs (w32 (x3 + 1)).toNat), .inl (xs (w32 (x3 + 2)).toNat)] σ (fun (r137 : Int) (s138 : Mem) =>
      (0 ≤ (w32 (x3 + 1)) ∧ (w32 (x3 + 1)) < (N : Int)) ∧ (0 ≤ (w32 (x3 + 2)) ∧ (w32 (x3 + 2)) < (N : Int)) ∧ wp d m_M_enough [.inr (.inr 49), .inl (xs (w32 (x3 + 1)).toNat), .inl (xs (w32 (x3 + 2)).toNat)] s138 (fun (r139 : Int) (s140 : Mem) =>
        (r137 = r139 → K_law_18 N xs d Q (w32 (x3 + 6)) s140) ∧
          (¬ r137 = r139 → Q 0 s140)))) ∧
    ((andI (xs x3.toNat) 63) = 33 → (0 ≤ (w32 (x3 + 1)) ∧ (w32 (x3 + 1)) < (N : Int)) ∧ (0 ≤ (w32 (x3 + 2)) ∧ (w32 (x3 + 2)) < (N : Int)) ∧ (0 ≤ (w32 (x3 + 3)) ∧ (w32 (x3 + 3)) < (N : Int)) ∧ wp d m_X_hear [.inr (.inr 0), .inl (xs (w32 (x3 + 1)).toNat), .inl (xs (w32 (x3 + 2)).toNat), .inl (xs (w32 (x3 + 3)).toNat)] σ (fun (r141 : Int) (s142 : Mem) =>
      (0 ≤ (w32 (x3 + 1)) ∧ (w32 (x3 + 1)) < (N : Int)) ∧ (0 ≤ (w32 (x3 + 2)) ∧ (w32 (x3 + 2)) < (N : Int)) ∧ (0 ≤ (w32 (x3 + 3)) ∧ (w32 (x3 + 3)) < (N : Int)) ∧ wp d m_M_hear [.inr (.inr 49), .inl (xs (w32 (x3 + 1)).toNat), .inl (xs (w32 (x3 + 2)).toNat), .inl (xs (w32 (x3 + 3)).toNat)] s142 (fun (r143 : Int) (s144 : Mem) =>
        (r141 = r143 → K_law_18 N xs d Q (w32 (x3 + 6)) s144) ∧
          (¬ r141 = r143 → Q 0 s144)))) ∧
    ((andI (xs x3.toNat) 63) = 34 → (0 ≤ (w32 (x3 + 1)) ∧ (w32 (x3 + 1)) < (N : Int)) ∧ (0 ≤ (w32 (x3 + 2)) ∧ (w32 (x3 + 2)) < (N : Int)) ∧ (0 ≤ (w32 (x3 + 3)) ∧ (w32 (x3 + 3)) < (N : Int)) ∧ ((xs (w32 (x3 + 3)).toNat) = 0 →
        (0 ≤ (w32 (x3 + 4)) ∧ (w32 (x3 + 4)) < (N : Int)) ∧ wp d m_X_knows [.inr (.inr 0), .inl (xs (w32 (x3 + 1)).toNat), .inl (xs (w32 (x3 + 2)).toNat), .inl 0, .inl (xs (w32 (x3 + 4)).toNat)] σ (fun (r145 : Int) (s146 : Mem) =>
        (0 ≤ (w32 (x3 + 1)) ∧ (w32 (x3 + 1)) < (N : Int)) ∧ (0 ≤ (w32 (x3 + 2)) ∧ (w32 (x3 + 2)) < (N : Int)) ∧ (0 ≤ (w32 (x3 + 3)) ∧ (w32 (x3 + 3)) < (N : Int)) ∧ ((xs (w32 (x3 + 3)).toNat) = 0 →
            (0 ≤ (w32 (x3 + 4)) ∧ (w32 (x3 + 4)) < (N : Int)) ∧ wp d m_M_knows [.inr (.inr 49), .inl (xs (w32 (x3 + 1)).toNat), .inl (xs (w32 (x3 + 2)).toNat), .inl 0, .inl (xs (w32 (x3 + 4)).toNat)] s146 (fun (r147 : Int) (s148 : Mem) =>
            (r145 = r147 → K_law_18 N xs d Q (w32 (x3 + 6)) s148) ∧
              (¬ r145 = r147 → Q 0 s148))) ∧
          (¬ (xs (w32 (x3 + 3)).toNat) = 0 →
            (0 ≤ (w32 (x3 + 4)) ∧ (w32 (x3 + 4)) < (N : Int)) ∧ wp d m_M_knows [.inr (.inr 49), .inl (xs (w32 (x3 + 1)).toNat), .inl (xs (w32 (x3 + 2)).toNat), .inl 1, .inl (xs (w32 (x3 + 4)).toNat)] s146 (fun (r149 : Int) (s150 : Mem) =>
            (r145 = r149 → K_law_18 N xs d Q (w32 (x3 + 6)) s150) ∧
              (¬ r145 = r149 → Q 0 s150))))) ∧
      (¬ (xs (w32 (x3 + 3)).toNat) = 0 →
        (0 ≤ (w32 (x3 + 4)) ∧ (w32 (x3 + 4)) < (N : Int)) ∧ wp d m_X_knows [.inr (.inr 0), .inl (xs (w32 (x3 + 1)).toNat), .inl (xs (w32 (x3 + 2)).toNat), .inl 1, .inl (xs (w32 (x3 + 4)).toNat)] σ (fun (r151 : Int) (s152 : Mem) =>
        (0 ≤ (w32 (x3 + 1)) ∧ (w32 (x3 + 1)) < (N : Int)) ∧ (0 ≤ (w32 (x3 + 2)) ∧ (w32 (x3 + 2)) < (N : Int)) ∧ (0 ≤ (w32 (x3 + 3)) ∧ (w32 (x3 + 3)) < (N : Int)) ∧ ((xs (w32 (x3 + 3)).toNat) = 0 →
            (0 ≤ (w32 (x3 + 4)) ∧ (w32 (x3 + 4)) < (N : Int)) ∧ wp d m_M_knows [.inr (.inr 49), .inl (xs (w32 (x3 + 1)).toNat), .inl (xs (w32 (x3 + 2)).toNat), .inl 0, .inl (xs (w32 (x3 + 4)).toNat)] s152 (fun (r153 : Int) (s154 : Mem) =>
            (r151 = r153 → K_law_18 N xs d Q (w32 (x3 + 6)) s154) ∧
              (¬ r151 = r153 → Q 0 s154))) ∧
          (¬ (xs (w32 (x3 + 3)).toNat) = 0 →
            (0 ≤ (w32 (x3 + 4)) ∧ (w32 (x3 + 4)) < (N : Int)) ∧ wp d m_M_knows [.inr (.inr 49), .inl (xs (w32 (x3 + 1)).toNat), .inl (xs (w32 (x3 + 2)).toNat), .inl 1, .inl (xs (w32 (x3 + 4)).toNat)] s152 (fun (r155 : Int) (s156 : Mem) =>
            (r151 = r155 → K_law_18 N xs d Q (w32 (x3 + 6)) s156) ∧
              (¬ r151 = r155 → Q 0 s156)))))) ∧
    ((andI (xs x3.toNat) 63) = 35 → (0 ≤ (w32 (x3 + 1)) ∧ (w32 (x3 + 1)) < (N : Int)) ∧ (0 ≤ (w32 (x3 + 2)) ∧ (w32 (x3 + 2)) < (N : Int)) ∧ (0 ≤ (w32 (x3 + 3)) ∧ (w32 (x3 + 3)) < (N : Int)) ∧ wp d m_X_rests [.inr (.inr 0), .inl (xs (w32 (x3 + 1)).toNat), .inl (xs (w32 (x3 + 2)).toNat), .inl (xs (w32 (x3 + 3)).toNat)] σ (fun (r157 : Int) (s158 : Mem) =>
      (0 ≤ (w32 (x3 + 1)) ∧ (w32 (x3 + 1)) < (N : Int)) ∧ (0 ≤ (w32 (x3 + 2)) ∧ (w32 (x3 + 2)) < (N : Int)) ∧ (0 ≤ (w32 (x3 + 3)) ∧ (w32 (x3 + 3)) < (N : Int)) ∧ wp d m_M_rests [.inr (.inr 49), .inl (xs (w32 (x3 + 1)).toNat), .inl (xs (w32 (x3 + 2)).toNat), .inl (xs (w32 (x3 + 3)).toNat)] s158 (fun (r159 : Int) (s160 : Mem) =>
        (r157 = r159 → K_law_18 N xs d Q (w32 (x3 + 6)) s160) ∧
          (¬ r157 = r159 → Q 0 s160)))) ∧
    ((andI (xs x3.toNat) 63) = 36 → (0 ≤ (w32 (x3 + 1)) ∧ (w32 (x3 + 1)) < (N : Int)) ∧ wp d m_X_shown [.inr (.inr 0), .inl (xs (w32 (x3 + 1)).toNat)] σ (fun (r161 : Int) (s162 : Mem) =>
      (0 ≤ (w32 (x3 + 1)) ∧ (w32 (x3 + 1)) < (N : Int)) ∧ wp d m_M_shown [.inr (.inr 49), .inl (xs (w32 (x3 + 1)).toNat)] s162 (fun (r163 : Int) (s164 : Mem) =>
        (r161 = r163 → K_law_18 N xs d Q (w32 (x3 + 6)) s164) ∧
          (¬ r161 = r163 → Q 0 s164)))) ∧
    ((andI (xs x3.toNat) 63) = 37 → (0 ≤ (w32 (x3 + 1)) ∧ (w32 (x3 + 1)) < (N : Int)) ∧ (0 ≤ (w32 (x3 + 2)) ∧ (w32 (x3 + 2)) < (N : Int)) ∧ wp d m_X_law [.inr (.inr 0), .inl (xs (w32 (x3 + 1)).toNat), .inl (xs (w32 (x3 + 2)).toNat)] σ (fun (r165 : Int) (s166 : Mem) =>
      (0 ≤ (w32 (x3 + 1)) ∧ (w32 (x3 + 1)) < (N : Int)) ∧ (0 ≤ (w32 (x3 + 2)) ∧ (w32 (x3 + 2)) < (N : Int)) ∧ wp d m_M_law [.inr (.inr 49), .inl (xs (w32 (x3 + 1)).toNat), .inl (xs (w32 (x3 + 2)).toNat)] s166 (fun (r167 : Int) (s168 : Mem) =>
        (r165 = r167 → K_law_18 N xs d Q (w32 (x3 + 6)) s168) ∧
          (¬ r165 = r167 → Q 0 s168)))) ∧
    ((andI (xs x3.toNat) 63) = 38 → (0 ≤ (w32 (x3 + 1)) ∧ (w32 (x3 + 1)) < (N : Int)) ∧ (0 ≤ (w32 (x3 + 2)) ∧ (w32 (x3 + 2)) < (N : Int)) ∧ (0 ≤ (w32 (x3 + 3)) ∧ (w32 (x3 + 3)) < (N : Int)) ∧ (0 ≤ (w32 (x3 + 4)) ∧ (w32 (x3 + 4)) < (N : Int)) ∧ wp d m_X_time [.inr (.inr 0), .inl (xs (w32 (x3 + 1)).toNat), .inl (xs (w32 (x3 + 2)).toNat), .inl (xs (w32 (x3 + 3)).toNat), .inl (xs (w32 (x3 + 4)).toNat)] σ (fun (r169 : Int) (s170 : Mem) =>
      (0 ≤ (w32 (x3 + 1)) ∧ (w32 (x3 + 1)) < (N : Int)) ∧ (0 ≤ (w32 (x3 + 2)) ∧ (w32 (x3 + 2)) < (N : Int)) ∧ (0 ≤ (w32 (x3 + 3)) ∧ (w32 (x3 + 3)) < (N : Int)) ∧ (0 ≤ (w32 (x3 + 4)) ∧ (w32 (x3 + 4)) < (N : Int)) ∧ wp d m_M_time [.inr (.inr 49), .inl (xs (w32 (x3 + 1)).toNat), .inl (xs (w32 (x3 + 2)).toNat), .inl (xs (w32 (x3 + 3)).toNat), .inl (xs (w32 (x3 + 4)).toNat)] s170 (fun (r171 : Int) (s172 : Mem) =>
        (r169 = r171 → K_law_18 N xs d Q (w32 (x3 + 6)) s172) ∧
          (¬ r169 = r171 → Q 0 s172)))) ∧
    ((andI (xs x3.toNat) 63) = 39 → wp d m_X_undo [.inr (.inr 0)] σ (fun (r173 : Int) (s174 : Mem) =>
      wp d m_M_undo [.inr (.inr 49)] s174 (fun (r175 : Int) (s176 : Mem) =>
        (r173 = r175 → K_law_18 N xs d Q (w32 (x3 + 6)) s176) ∧
          (¬ r173 = r175 → Q 0 s176)))) ∧
    ((andI (xs x3.toNat) 63) = 40 → wp d m_X_image [.inr (.inr 0)] σ (fun (r177 : Int) (s178 : Mem) =>
      wp d m_M_image [.inr (.inr 49)] s178 (fun (r179 : Int) (s180 : Mem) =>
        (r177 = r179 → K_law_18 N xs d Q (w32 (x3 + 6)) s180) ∧
          (¬ r177 = r179 → Q 0 s180)))) ∧
    ((andI (xs x3.toNat) 63) = 41 → wp d m_X_on [.inr (.inr 0)] σ (fun (r181 : Int) (s182 : Mem) =>
      wp d m_M_on [.inr (.inr 49)] s182 (fun (r183 : Int) (s184 : Mem) =>
        (r181 = r183 → K_law_18 N xs d Q (w32 (x3 + 6)) s184) ∧
          (¬ r181 = r183 → Q 0 s184)))) ∧
    ((andI (xs x3.toNat) 63) = 42 → (0 ≤ (w32 (x3 + 1)) ∧ (w32 (x3 + 1)) < (N : Int)) ∧ wp d m_X_count [.inr (.inr 0), .inl (xs (w32 (x3 + 1)).toNat)] σ (fun (r185 : Int) (s186 : Mem) =>
      (0 ≤ (w32 (x3 + 1)) ∧ (w32 (x3 + 1)) < (N : Int)) ∧ wp d m_M_count [.inr (.inr 49), .inl (xs (w32 (x3 + 1)).toNat)] s186 (fun (r187 : Int) (s188 : Mem) =>
        (r185 = r187 → K_law_18 N xs d Q (w32 (x3 + 6)) s188) ∧
          (¬ r185 = r187 → Q 0 s188)))))) : K_law_18 N xs d Q x3 σ := XX_intro (g_law_18 (N := N) (xs := xs) (call := wp d) (cut := XX (some (N, xs)) (wp d) c_law true Q) (Q := Q) (x3 := x3) (σ := σ) (⟨fun z151 => ⟨isB1, ((h).1 z151)⟩, fun z151 => ⟨(((h).2 z151)).1, ⟨fun z150 => (((((h).2 z151)).2).1 z150), fun z150 => ⟨((((((h).2 z151)).2).2.1 (z150.trans (by decide)))).1, ⟨(((((((h).2 z151)).2).2.1 (z150.trans (by decide)))).2).1, ⟨((((((((h).2 z151)).2).2.1 (z150.trans (by decide)))).2).2).1, wp_conseq (fun _ _ z3 => ⟨(z3).1, ⟨((z3).2).1, ⟨(((z3).2).2).1, wp_conseq (fun _ _ z2 => ⟨fun z1 => (z2).1 z1, fun z1 => ⟨isB0, ((z2).2 z1)⟩⟩) ((((z3).2).2).2)⟩⟩⟩) (((((((((h).2 z151)).2).2.1 (z150.trans (by decide)))).2).2).2)⟩⟩⟩, fun z150 => wp_conseq (fun _ _ z6 => wp_conseq (fun _ _ z5 => ⟨fun z4 => (z5).1 z4, fun z4 => ⟨isB0, ((z5).2 z4)⟩⟩) (z6)) ((((((h).2 z151)).2).2.2.1 (z150.trans (by decide)))), fun z150 => ⟨((((((h).2 z151)).2).2.2.2.1 (z150.trans (by decide)))).1, wp_conseq (fun _ _ z9 => ⟨(z9).1, wp_conseq (fun _ _ z8 => ⟨fun z7 => (z8).1 z7, fun z7 => ⟨isB0, ((z8).2 z7)⟩⟩) ((z9).2)⟩) (((((((h).2 z151)).2).2.2.2.1 (z150.trans (by decide)))).2)⟩, fun z150 => ⟨((((((h).2 z151)).2).2.2.2.2.1 (z150.trans (by decide)))).1, ⟨(((((((h).2 z151)).2).2.2.2.2.1 (z150.trans (by decide)))).2).1, ⟨((((((((h).2 z151)).2).2.2.2.2.1 (z150.trans (by decide)))).2).2).1, wp_conseq (fun _ _ z12 => ⟨(z12).1, ⟨((z12).2).1, ⟨(((z12).2).2).1, wp_conseq (fun _ _ z11 => ⟨fun z10 => (z11).1 z10, fun z10 => ⟨isB0, ((z11).2 z10)⟩⟩) ((((z12).2).2).2)⟩⟩⟩) (((((((((h).2 z151)).2).2.2.2.2.1 (z150.trans (by decide)))).2).2).2)⟩⟩⟩, fun z150 => ⟨((((((h).2 z151)).2).2.2.2.2.2.1 (z150.trans (by decide)))).1, ⟨(((((((h).2 z151)).2).2.2.2.2.2.1 (z150.trans (by decide)))).2).1, ⟨((((((((h).2 z151)).2).2.2.2.2.2.1 (z150.trans (by decide)))).2).2).1, wp_conseq (fun _ _ z15 => ⟨(z15).1, ⟨((z15).2).1, ⟨(((z15).2).2).1, wp_conseq (fun _ _ z14 => ⟨fun z13 => (z14).1 z13, fun z13 => ⟨isB0, ((z14).2 z13)⟩⟩) ((((z15).2).2).2)⟩⟩⟩) (((((((((h).2 z151)).2).2.2.2.2.2.1 (z150.trans (by decide)))).2).2).2)⟩⟩⟩, fun z150 => ⟨((((((h).2 z151)).2).2.2.2.2.2.2.1 (z150.trans (by decide)))).1, wp_conseq (fun _ _ z18 => ⟨(z18).1, wp_conseq (fun _ _ z17 => ⟨fun z16 => (z17).1 z16, fun z16 => ⟨isB0, ((z17).2 z16)⟩⟩) ((z18).2)⟩) (((((((h).2 z151)).2).2.2.2.2.2.2.1 (z150.trans (by decide)))).2)⟩, fun z150 => ⟨((((((h).2 z151)).2).2.2.2.2.2.2.2.1 (z150.trans (by decide)))).1, ⟨(((((((h).2 z151)).2).2.2.2.2.2.2.2.1 (z150.trans (by decide)))).2).1, ⟨((((((((h).2 z151)).2).2.2.2.2.2.2.2.1 (z150.trans (by decide)))).2).2).1, ⟨(((((((((h).2 z151)).2).2.2.2.2.2.2.2.1 (z150.trans (by decide)))).2).2).2).1, wp_conseq (fun _ _ z21 => ⟨(z21).1, ⟨((z21).2).1, ⟨(((z21).2).2).1, ⟨((((z21).2).2).2).1, wp_conseq (fun _ _ z20 => ⟨fun z19 => (z20).1 z19, fun z19 => ⟨isB0, ((z20).2 z19)⟩⟩) (((((z21).2).2).2).2)⟩⟩⟩⟩) ((((((((((h).2 z151)).2).2.2.2.2.2.2.2.1 (z150.trans (by decide)))).2).2).2).2)⟩⟩⟩⟩, fun z150 => ⟨((((((h).2 z151)).2).2.2.2.2.2.2.2.2.1 (z150.trans (by decide)))).1, wp_conseq (fun _ _ z24 => ⟨(z24).1, wp_conseq (fun _ _ z23 => ⟨fun z22 => (z23).1 z22, fun z22 => ⟨isB0, ((z23).2 z22)⟩⟩) ((z24).2)⟩) (((((((h).2 z151)).2).2.2.2.2.2.2.2.2.1 (z150.trans (by decide)))).2)⟩, fun z150 => ⟨((((((h).2 z151)).2).2.2.2.2.2.2.2.2.2.1 (z150.trans (by decide)))).1, wp_conseq (fun _ _ z27 => ⟨(z27).1, wp_conseq (fun _ _ z26 => ⟨fun z25 => (z26).1 z25, fun z25 => ⟨isB0, ((z26).2 z25)⟩⟩) ((z27).2)⟩) (((((((h).2 z151)).2).2.2.2.2.2.2.2.2.2.1 (z150.trans (by decide)))).2)⟩, fun z150 => ⟨((((((h).2 z151)).2).2.2.2.2.2.2.2.2.2.2.1 (z150.trans (by decide)))).1, wp_conseq (fun _ _ z30 => ⟨(z30).1, wp_conseq (fun _ _ z29 => ⟨fun z28 => (z29).1 z28, fun z28 => ⟨isB0, ((z29).2 z28)⟩⟩) ((z30).2)⟩) (((((((h).2 z151)).2).2.2.2.2.2.2.2.2.2.2.1 (z150.trans (by decide)))).2)⟩, fun z150 => ⟨((((((h).2 z151)).2).2.2.2.2.2.2.2.2.2.2.2.1 (z150.trans (by decide)))).1, wp_conseq (fun _ _ z33 => ⟨(z33).1, wp_conseq (fun _ _ z32 => ⟨fun z31 => (z32).1 z31, fun z31 => ⟨isB0, ((z32).2 z31)⟩⟩) ((z33).2)⟩) (((((((h).2 z151)).2).2.2.2.2.2.2.2.2.2.2.2.1 (z150.trans (by decide)))).2)⟩, fun z150 => ⟨((((((h).2 z151)).2).2.2.2.2.2.2.2.2.2.2.2.2.1 (z150.trans (by decide)))).1, ⟨(((((((h).2 z151)).2).2.2.2.2.2.2.2.2.2.2.2.2.1 (z150.trans (by decide)))).2).1, ⟨((((((((h).2 z151)).2).2.2.2.2.2.2.2.2.2.2.2.2.1 (z150.trans (by decide)))).2).2).1, wp_conseq (fun _ _ z36 => ⟨(z36).1, ⟨((z36).2).1, ⟨(((z36).2).2).1, wp_conseq (fun _ _ z35 => ⟨fun z34 => (z35).1 z34, fun z34 => ⟨isB0, ((z35).2 z34)⟩⟩) ((((z36).2).2).2)⟩⟩⟩) (((((((((h).2 z151)).2).2.2.2.2.2.2.2.2.2.2.2.2.1 (z150.trans (by decide)))).2).2).2)⟩⟩⟩, fun z150 => ⟨((((((h).2 z151)).2).2.2.2.2.2.2.2.2.2.2.2.2.2.1 (z150.trans (by decide)))).1, ⟨(((((((h).2 z151)).2).2.2.2.2.2.2.2.2.2.2.2.2.2.1 (z150.trans (by decide)))).2).1, ⟨((((((((h).2 z151)).2).2.2.2.2.2.2.2.2.2.2.2.2.2.1 (z150.trans (by decide)))).2).2).1, wp_conseq (fun _ _ z39 => ⟨(z39).1, ⟨((z39).2).1, ⟨(((z39).2).2).1, wp_conseq (fun _ _ z38 => ⟨fun z37 => (z38).1 z37, fun z37 => ⟨isB0, ((z38).2 z37)⟩⟩) ((((z39).2).2).2)⟩⟩⟩) (((((((((h).2 z151)).2).2.2.2.2.2.2.2.2.2.2.2.2.2.1 (z150.trans (by decide)))).2).2).2)⟩⟩⟩, fun z150 => ⟨((((((h).2 z151)).2).2.2.2.2.2.2.2.2.2.2.2.2.2.2.1 (z150.trans (by decide)))).1, wp_conseq (fun _ _ z42 => ⟨(z42).1, wp_conseq (fun _ _ z41 => ⟨fun z40 => (z41).1 z40, fun z40 => ⟨isB0, ((z41).2 z40)⟩⟩) ((z42).2)⟩) (((((((h).2 z151)).2).2.2.2.2.2.2.2.2.2.2.2.2.2.2.1 (z150.trans (by decide)))).2)⟩, fun z150 => ⟨((((((h).2 z151)).2).2.2.2.2.2.2.2.2.2.2.2.2.2.2.2.1 (z150.trans (by decide)))).1, ⟨(((((((h).2 z151)).2).2.2.2.2.2.2.2.2.2.2.2.2.2.2.2.1 (z150.trans (by decide)))).2).1, ⟨((((((((h).2 z151)).2).2.2.2.2.2.2.2.2.2.2.2.2.2.2.2.1 (z150.trans (by decide)))).2).2).1, wp_conseq (fun _ _ z45 => ⟨(z45).1, ⟨((z45).2).1, ⟨(((z45).2).2).1, wp_conseq (fun _ _ z44 => ⟨fun z43 => (z44).1 z43, fun z43 => ⟨isB0, ((z44).2 z43)⟩⟩) ((((z45).2).2).2)⟩⟩⟩) (((((((((h).2 z151)).2).2.2.2.2.2.2.2.2.2.2.2.2.2.2.2.1 (z150.trans (by decide)))).2).2).2)⟩⟩⟩, fun z150 => ⟨((((((h).2 z151)).2).2.2.2.2.2.2.2.2.2.2.2.2.2.2.2.2.1 (z150.trans (by decide)))).1, ⟨(((((((h).2 z151)).2).2.2.2.2.2.2.2.2.2.2.2.2.2.2.2.2.1 (z150.trans (by decide)))).2).1, ⟨((((((((h).2 z151)).2).2.2.2.2.2.2.2.2.2.2.2.2.2.2.2.2.1 (z150.trans (by decide)))).2).2).1, wp_conseq (fun _ _ z48 => ⟨(z48).1, ⟨((z48).2).1, ⟨(((z48).2).2).1, wp_conseq (fun _ _ z47 => ⟨fun z46 => (z47).1 z46, fun z46 => ⟨isB0, ((z47).2 z46)⟩⟩) ((((z48).2).2).2)⟩⟩⟩) (((((((((h).2 z151)).2).2.2.2.2.2.2.2.2.2.2.2.2.2.2.2.2.1 (z150.trans (by decide)))).2).2).2)⟩⟩⟩, fun z150 => ⟨((((((h).2 z151)).2).2.2.2.2.2.2.2.2.2.2.2.2.2.2.2.2.2.1 (z150.trans (by decide)))).1, ⟨(((((((h).2 z151)).2).2.2.2.2.2.2.2.2.2.2.2.2.2.2.2.2.2.1 (z150.trans (by decide)))).2).1, wp_conseq (fun _ _ z51 => ⟨(z51).1, ⟨((z51).2).1, wp_conseq (fun _ _ z50 => ⟨fun z49 => (z50).1 z49, fun z49 => ⟨isB0, ((z50).2 z49)⟩⟩) (((z51).2).2)⟩⟩) ((((((((h).2 z151)).2).2.2.2.2.2.2.2.2.2.2.2.2.2.2.2.2.2.1 (z150.trans (by decide)))).2).2)⟩⟩, fun z150 => ⟨((((((h).2 z151)).2).2.2.2.2.2.2.2.2.2.2.2.2.2.2.2.2.2.2.1 (z150.trans (by decide)))).1, ⟨(((((((h).2 z151)).2).2.2.2.2.2.2.2.2.2.2.2.2.2.2.2.2.2.2.1 (z150.trans (by decide)))).2).1, ⟨fun z64 => ⟨((((((((((h).2 z151)).2).2.2.2.2.2.2.2.2.2.2.2.2.2.2.2.2.2.2.1 (z150.trans (by decide)))).2).2).1 z64)).1, wp_conseq (fun _ _ z57 => ⟨(z57).1, ⟨((z57).2).1, ⟨fun z56 => ⟨(((((z57).2).2).1 z56)).1, wp_conseq (fun _ _ z53 => ⟨fun z52 => (z53).1 z52, fun z52 => ⟨isB0, ((z53).2 z52)⟩⟩) ((((((z57).2).2).1 z56)).2)⟩, fun z56 => ⟨(((((z57).2).2).2 z56)).1, wp_conseq (fun _ _ z55 => ⟨fun z54 => (z55).1 z54, fun z54 => ⟨isB0, ((z55).2 z54)⟩⟩) ((((((z57).2).2).2 z56)).2)⟩⟩⟩⟩) (((((((((((h).2 z151)).2).2.2.2.2.2.2.2.2.2.2.2.2.2.2.2.2.2.2.1 (z150.trans (by decide)))).2).2).1 z64)).2)⟩, fun z64 => ⟨((((((((((h).2 z151)).2).2.2.2.2.2.2.2.2.2.2.2.2.2.2.2.2.2.2.1 (z150.trans (by decide)))).2).2).2 z64)).1, wp_conseq (fun _ _ z63 => ⟨(z63).1, ⟨((z63).2).1, ⟨fun z62 => ⟨(((((z63).2).2).1 z62)).1, wp_conseq (fun _ _ z59 => ⟨fun z58 => (z59).1 z58, fun z58 => ⟨isB0, ((z59).2 z58)⟩⟩) ((((((z63).2).2).1 z62)).2)⟩, fun z62 => ⟨(((((z63).2).2).2 z62)).1, wp_conseq (fun _ _ z61 => ⟨fun z60 => (z61).1 z60, fun z60 => ⟨isB0, ((z61).2 z60)⟩⟩) ((((((z63).2).2).2 z62)).2)⟩⟩⟩⟩) (((((((((((h).2 z151)).2).2.2.2.2.2.2.2.2.2.2.2.2.2.2.2.2.2.2.1 (z150.trans (by decide)))).2).2).2 z64)).2)⟩⟩⟩⟩, fun z150 => ⟨((((((h).2 z151)).2).2.2.2.2.2.2.2.2.2.2.2.2.2.2.2.2.2.2.2.1 (z150.trans (by decide)))).1, ⟨(((((((h).2 z151)).2).2.2.2.2.2.2.2.2.2.2.2.2.2.2.2.2.2.2.2.1 (z150.trans (by decide)))).2).1, wp_conseq (fun _ _ z67 => ⟨(z67).1, ⟨((z67).2).1, wp_conseq (fun _ _ z66 => ⟨fun z65 => (z66).1 z65, fun z65 => ⟨isB0, ((z66).2 z65)⟩⟩) (((z67).2).2)⟩⟩) ((((((((h).2 z151)).2).2.2.2.2.2.2.2.2.2.2.2.2.2.2.2.2.2.2.2.1 (z150.trans (by decide)))).2).2)⟩⟩, fun z150 => ⟨((((((h).2 z151)).2).2.2.2.2.2.2.2.2.2.2.2.2.2.2.2.2.2.2.2.2.1 (z150.trans (by decide)))).1, ⟨(((((((h).2 z151)).2).2.2.2.2.2.2.2.2.2.2.2.2.2.2.2.2.2.2.2.2.1 (z150.trans (by decide)))).2).1, ⟨((((((((h).2 z151)).2).2.2.2.2.2.2.2.2.2.2.2.2.2.2.2.2.2.2.2.2.1 (z150.trans (by decide)))).2).2).1, ⟨(((((((((h).2 z151)).2).2.2.2.2.2.2.2.2.2.2.2.2.2.2.2.2.2.2.2.2.1 (z150.trans (by decide)))).2).2).2).1, ⟨((((((((((h).2 z151)).2).2.2.2.2.2.2.2.2.2.2.2.2.2.2.2.2.2.2.2.2.1 (z150.trans (by decide)))).2).2).2).2).1, wp_conseq (fun _ _ z70 => ⟨(z70).1, ⟨((z70).2).1, ⟨(((z70).2).2).1, ⟨((((z70).2).2).2).1, ⟨(((((z70).2).2).2).2).1, wp_conseq (fun _ _ z69 => ⟨fun z68 => (z69).1 z68, fun z68 => ⟨isB0, ((z69).2 z68)⟩⟩) ((((((z70).2).2).2).2).2)⟩⟩⟩⟩⟩) (((((((((((h).2 z151)).2).2.2.2.2.2.2.2.2.2.2.2.2.2.2.2.2.2.2.2.2.1 (z150.trans (by decide)))).2).2).2).2).2)⟩⟩⟩⟩⟩, fun z150 => wp_conseq (fun _ _ z73 => wp_conseq (fun _ _ z72 => ⟨fun z71 => (z72).1 z71, fun z71 => ⟨isB0, ((z72).2 z71)⟩⟩) (z73)) ((((((h).2 z151)).2).2.2.2.2.2.2.2.2.2.2.2.2.2.2.2.2.2.2.2.2.2.1 (z150.trans (by decide)))), fun z150 => wp_conseq (fun _ _ z76 => wp_conseq (fun _ _ z75 => ⟨fun z74 => (z75).1 z74, fun z74 => ⟨isB0, ((z75).2 z74)⟩⟩) (z76)) ((((((h).2 z151)).2).2.2.2.2.2.2.2.2.2.2.2.2.2.2.2.2.2.2.2.2.2.2.1 (z150.trans (by decide)))), fun z150 => ⟨((((((h).2 z151)).2).2.2.2.2.2.2.2.2.2.2.2.2.2.2.2.2.2.2.2.2.2.2.2.1 (z150.trans (by decide)))).1, ⟨(((((((h).2 z151)).2).2.2.2.2.2.2.2.2.2.2.2.2.2.2.2.2.2.2.2.2.2.2.2.1 (z150.trans (by decide)))).2).1, ⟨((((((((h).2 z151)).2).2.2.2.2.2.2.2.2.2.2.2.2.2.2.2.2.2.2.2.2.2.2.2.1 (z150.trans (by decide)))).2).2).1, wp_conseq (fun _ _ z79 => ⟨(z79).1, ⟨((z79).2).1, ⟨(((z79).2).2).1, wp_conseq (fun _ _ z78 => ⟨fun z77 => (z78).1 z77, fun z77 => ⟨isB0, ((z78).2 z77)⟩⟩) ((((z79).2).2).2)⟩⟩⟩) (((((((((h).2 z151)).2).2.2.2.2.2.2.2.2.2.2.2.2.2.2.2.2.2.2.2.2.2.2.2.1 (z150.trans (by decide)))).2).2).2)⟩⟩⟩, fun z150 => wp_conseq (fun _ _ z82 => wp_conseq (fun _ _ z81 => ⟨fun z80 => (z81).1 z80, fun z80 => ⟨isB0, ((z81).2 z80)⟩⟩) (z82)) ((((((h).2 z151)).2).2.2.2.2.2.2.2.2.2.2.2.2.2.2.2.2.2.2.2.2.2.2.2.2.1 (z150.trans (by decide)))), fun z150 => ⟨((((((h).2 z151)).2).2.2.2.2.2.2.2.2.2.2.2.2.2.2.2.2.2.2.2.2.2.2.2.2.2.1 (z150.trans (by decide)))).1, ⟨(((((((h).2 z151)).2).2.2.2.2.2.2.2.2.2.2.2.2.2.2.2.2.2.2.2.2.2.2.2.2.2.1 (z150.trans (by decide)))).2).1, wp_conseq (fun _ _ z85 => ⟨(z85).1, ⟨((z85).2).1, wp_conseq (fun _ _ z84 => ⟨fun z83 => (z84).1 z83, fun z83 => ⟨isB0, ((z84).2 z83)⟩⟩) (((z85).2).2)⟩⟩) ((((((((h).2 z151)).2).2.2.2.2.2.2.2.2.2.2.2.2.2.2.2.2.2.2.2.2.2.2.2.2.2.1 (z150.trans (by decide)))).2).2)⟩⟩, fun z150 => ⟨((((((h).2 z151)).2).2.2.2.2.2.2.2.2.2.2.2.2.2.2.2.2.2.2.2.2.2.2.2.2.2.2.1 (z150.trans (by decide)))).1, ⟨(((((((h).2 z151)).2).2.2.2.2.2.2.2.2.2.2.2.2.2.2.2.2.2.2.2.2.2.2.2.2.2.2.1 (z150.trans (by decide)))).2).1, wp_conseq (fun _ _ z88 => ⟨(z88).1, ⟨((z88).2).1, wp_conseq (fun _ _ z87 => ⟨fun z86 => (z87).1 z86, fun z86 => ⟨isB0, ((z87).2 z86)⟩⟩) (((z88).2).2)⟩⟩) ((((((((h).2 z151)).2).2.2.2.2.2.2.2.2.2.2.2.2.2.2.2.2.2.2.2.2.2.2.2.2.2.2.1 (z150.trans (by decide)))).2).2)⟩⟩, fun z150 => ⟨((((((h).2 z151)).2).2.2.2.2.2.2.2.2.2.2.2.2.2.2.2.2.2.2.2.2.2.2.2.2.2.2.2.1 (z150.trans (by decide)))).1, ⟨(((((((h).2 z151)).2).2.2.2.2.2.2.2.2.2.2.2.2.2.2.2.2.2.2.2.2.2.2.2.2.2.2.2.1 (z150.trans (by decide)))).2).1, wp_conseq (fun _ _ z91 => ⟨(z91).1, ⟨((z91).2).1, wp_conseq (fun _ _ z90 => ⟨fun z89 => (z90).1 z89, fun z89 => ⟨isB0, ((z90).2 z89)⟩⟩) (((z91).2).2)⟩⟩) ((((((((h).2 z151)).2).2.2.2.2.2.2.2.2.2.2.2.2.2.2.2.2.2.2.2.2.2.2.2.2.2.2.2.1 (z150.trans (by decide)))).2).2)⟩⟩, fun z150 => wp_conseq (fun _ _ z94 => wp_conseq (fun _ _ z93 => ⟨fun z92 => (z93).1 z92, fun z92 => ⟨isB0, ((z93).2 z92)⟩⟩) (z94)) ((((((h).2 z151)).2).2.2.2.2.2.2.2.2.2.2.2.2.2.2.2.2.2.2.2.2.2.2.2.2.2.2.2.2.1 (z150.trans (by decide)))), fun z150 => ⟨((((((h).2 z151)).2).2.2.2.2.2.2.2.2.2.2.2.2.2.2.2.2.2.2.2.2.2.2.2.2.2.2.2.2.2.1 (z150.trans (by decide)))).1, ⟨(((((((h).2 z151)).2).2.2.2.2.2.2.2.2.2.2.2.2.2.2.2.2.2.2.2.2.2.2.2.2.2.2.2.2.2.1 (z150.trans (by decide)))).2).1, ⟨((((((((h).2 z151)).2).2.2.2.2.2.2.2.2.2.2.2.2.2.2.2.2.2.2.2.2.2.2.2.2.2.2.2.2.2.1 (z150.trans (by decide)))).2).2).1, ⟨(((((((((h).2 z151)).2).2.2.2.2.2.2.2.2.2.2.2.2.2.2.2.2.2.2.2.2.2.2.2.2.2.2.2.2.2.1 (z150.trans (by decide)))).2).2).2).1, wp_conseq (fun _ _ z97 => ⟨(z97).1, ⟨((z97).2).1, ⟨(((z97).2).2).1, ⟨((((z97).2).2).2).1, wp_conseq (fun _ _ z96 => ⟨fun z95 => (z96).1 z95, fun z95 => ⟨isB0, ((z96).2 z95)⟩⟩) (((((z97).2).2).2).2)⟩⟩⟩⟩) ((((((((((h).2 z151)).2).2.2.2.2.2.2.2.2.2.2.2.2.2.2.2.2.2.2.2.2.2.2.2.2.2.2.2.2.2.1 (z150.trans (by decide)))).2).2).2).2)⟩⟩⟩⟩, fun z150 => ⟨((((((h).2 z151)).2).2.2.2.2.2.2.2.2.2.2.2.2.2.2.2.2.2.2.2.2.2.2.2.2.2.2.2.2.2.2.1 (z150.trans (by decide)))).1, ⟨(((((((h).2 z151)).2).2.2.2.2.2.2.2.2.2.2.2.2.2.2.2.2.2.2.2.2.2.2.2.2.2.2.2.2.2.2.1 (z150.trans (by decide)))).2).1, wp_conseq (fun _ _ z100 => ⟨(z100).1, ⟨((z100).2).1, wp_conseq (fun _ _ z99 => ⟨fun z98 => (z99).1 z98, fun z98 => ⟨isB0, ((z99).2 z98)⟩⟩) (((z100).2).2)⟩⟩) ((((((((h).2 z151)).2).2.2.2.2.2.2.2.2.2.2.2.2.2.2.2.2.2.2.2.2.2.2.2.2.2.2.2.2.2.2.1 (z150.trans (by decide)))).2).2)⟩⟩, fun z150 => ⟨((((((h).2 z151)).2).2.2.2.2.2.2.2.2.2.2.2.2.2.2.2.2.2.2.2.2.2.2.2.2.2.2.2.2.2.2.2.1 (z150.trans (by decide)))).1, ⟨(((((((h).2 z151)).2).2.2.2.2.2.2.2.2.2.2.2.2.2.2.2.2.2.2.2.2.2.2.2.2.2.2.2.2.2.2.2.1 (z150.trans (by decide)))).2).1, wp_conseq (fun _ _ z103 => ⟨(z103).1, ⟨((z103).2).1, wp_conseq (fun _ _ z102 => ⟨fun z101 => (z102).1 z101, fun z101 => ⟨isB0, ((z102).2 z101)⟩⟩) (((z103).2).2)⟩⟩) ((((((((h).2 z151)).2).2.2.2.2.2.2.2.2.2.2.2.2.2.2.2.2.2.2.2.2.2.2.2.2.2.2.2.2.2.2.2.1 (z150.trans (by decide)))).2).2)⟩⟩, fun z150 => wp_conseq (fun _ _ z106 => wp_conseq (fun _ _ z105 => ⟨fun z104 => (z105).1 z104, fun z104 => ⟨isB0, ((z105).2 z104)⟩⟩) (z106)) ((((((h).2 z151)).2).2.2.2.2.2.2.2.2.2.2.2.2.2.2.2.2.2.2.2.2.2.2.2.2.2.2.2.2.2.2.2.2.1 (z150.trans (by decide)))), fun z150 => ⟨((((((h).2 z151)).2).2.2.2.2.2.2.2.2.2.2.2.2.2.2.2.2.2.2.2.2.2.2.2.2.2.2.2.2.2.2.2.2.2.1 (z150.trans (by decide)))).1, ⟨(((((((h).2 z151)).2).2.2.2.2.2.2.2.2.2.2.2.2.2.2.2.2.2.2.2.2.2.2.2.2.2.2.2.2.2.2.2.2.2.1 (z150.trans (by decide)))).2).1, wp_conseq (fun _ _ z109 => ⟨(z109).1, ⟨((z109).2).1, wp_conseq (fun _ _ z108 => ⟨fun z107 => (z108).1 z107, fun z107 => ⟨isB0, ((z108).2 z107)⟩⟩) (((z109).2).2)⟩⟩) ((((((((h).2 z151)).2).2.2.2.2.2.2.2.2.2.2.2.2.2.2.2.2.2.2.2.2.2.2.2.2.2.2.2.2.2.2.2.2.2.1 (z150.trans (by decide)))).2).2)⟩⟩, fun z150 => ⟨((((((h).2 z151)).2).2.2.2.2.2.2.2.2.2.2.2.2.2.2.2.2.2.2.2.2.2.2.2.2.2.2.2.2.2.2.2.2.2.2.1 (z150.trans (by decide)))).1, ⟨(((((((h).2 z151)).2).2.2.2.2.2.2.2.2.2.2.2.2.2.2.2.2.2.2.2.2.2.2.2.2.2.2.2.2.2.2.2.2.2.2.1 (z150.trans (by decide)))).2).1, ⟨((((((((h).2 z151)).2).2.2.2.2.2.2.2.2.2.2.2.2.2.2.2.2.2.2.2.2.2.2.2.2.2.2.2.2.2.2.2.2.2.2.1 (z150.trans (by decide)))).2).2).1, wp_conseq (fun _ _ z112 => ⟨(z112).1, ⟨((z112).2).1, ⟨(((z112).2).2).1, wp_conseq (fun _ _ z111 => ⟨fun z110 => (z111).1 z110, fun z110 => ⟨isB0, ((z111).2 z110)⟩⟩) ((((z112).2).2).2)⟩⟩⟩) (((((((((h).2 z151)).2).2.2.2.2.2.2.2.2.2.2.2.2.2.2.2.2.2.2.2.2.2.2.2.2.2.2.2.2.2.2.2.2.2.2.1 (z150.trans (by decide)))).2).2).2)⟩⟩⟩, fun z150 => ⟨((((((h).2 z151)).2).2.2.2.2.2.2.2.2.2.2.2.2.2.2.2.2.2.2.2.2.2.2.2.2.2.2.2.2.2.2.2.2.2.2.2.1 (z150.trans (by decide)))).1, ⟨(((((((h).2 z151)).2).2.2.2.2.2.2.2.2.2.2.2.2.2.2.2.2.2.2.2.2.2.2.2.2.2.2.2.2.2.2.2.2.2.2.2.1 (z150.trans (by decide)))).2).1, ⟨((((((((h).2 z151)).2).2.2.2.2.2.2.2.2.2.2.2.2.2.2.2.2.2.2.2.2.2.2.2.2.2.2.2.2.2.2.2.2.2.2.2.1 (z150.trans (by decide)))).2).2).1, ⟨fun z125 => ⟨(((((((((((h).2 z151)).2).2.2.2.2.2.2.2.2.2.2.2.2.2.2.2.2.2.2.2.2.2.2.2.2.2.2.2.2.2.2.2.2.2.2.2.1 (z150.trans (by decide)))).2).2).2).1 z125)).1, wp_conseq (fun _ _ z118 => ⟨(z118).1, ⟨((z118).2).1, ⟨(((z118).2).2).1, ⟨fun z117 => ⟨((((((z118).2).2).2).1 z117)).1, wp_conseq (fun _ _ z114 => ⟨fun z113 => (z114).1 z113, fun z113 => ⟨isB0, ((z114).2 z113)⟩⟩) (((((((z118).2).2).2).1 z117)).2)⟩, fun z117 => ⟨((((((z118).2).2).2).2 z117)).1, wp_conseq (fun _ _ z116 => ⟨fun z115 => (z116).1 z115, fun z115 => ⟨isB0, ((z116).2 z115)⟩⟩) (((((((z118).2).2).2).2 z117)).2)⟩⟩⟩⟩⟩) ((((((((((((h).2 z151)).2).2.2.2.2.2.2.2.2.2.2.2.2.2.2.2.2.2.2.2.2.2.2.2.2.2.2.2.2.2.2.2.2.2.2.2.1 (z150.trans (by decide)))).2).2).2).1 z125)).2)⟩, fun z125 => ⟨(((((((((((h).2 z151)).2).2.2.2.2.2.2.2.2.2.2.2.2.2.2.2.2.2.2.2.2.2.2.2.2.2.2.2.2.2.2.2.2.2.2.2.1 (z150.trans (by decide)))).2).2).2).2 z125)).1, wp_conseq (fun _ _ z124 => ⟨(z124).1, ⟨((z124).2).1, ⟨(((z124).2).2).1, ⟨fun z123 => ⟨((((((z124).2).2).2).1 z123)).1, wp_conseq (fun _ _ z120 => ⟨fun z119 => (z120).1 z119, fun z119 => ⟨isB0, ((z120).2 z119)⟩⟩) (((((((z124).2).2).2).1 z123)).2)⟩, fun z123 => ⟨((((((z124).2).2).2).2 z123)).1, wp_conseq (fun _ _ z122 => ⟨fun z121 => (z122).1 z121, fun z121 => ⟨isB0, ((z122).2 z121)⟩⟩) (((((((z124).2).2).2).2 z123)).2)⟩⟩⟩⟩⟩) ((((((((((((h).2 z151)).2).2.2.2.2.2.2.2.2.2.2.2.2.2.2.2.2.2.2.2.2.2.2.2.2.2.2.2.2.2.2.2.2.2.2.2.1 (z150.trans (by decide)))).2).2).2).2 z125)).2)⟩⟩⟩⟩⟩, fun z150 => ⟨((((((h).2 z151)).2).2.2.2.2.2.2.2.2.2.2.2.2.2.2.2.2.2.2.2.2.2.2.2.2.2.2.2.2.2.2.2.2.2.2.2.2.1 (z150.trans (by decide)))).1, ⟨(((((((h).2 z151)).2).2.2.2.2.2.2.2.2.2.2.2.2.2.2.2.2.2.2.2.2.2.2.2.2.2.2.2.2.2.2.2.2.2.2.2.2.1 (z150.trans (by decide)))).2).1, ⟨((((((((h).2 z151)).2).2.2.2.2.2.2.2.2.2.2.2.2.2.2.2.2.2.2.2.2.2.2.2.2.2.2.2.2.2.2.2.2.2.2.2.2.1 (z150.trans (by decide)))).2).2).1, wp_conseq (fun _ _ z128 => ⟨(z128).1, ⟨((z128).2).1, ⟨(((z128).2).2).1, wp_conseq (fun _ _ z127 => ⟨fun z126 => (z127).1 z126, fun z126 => ⟨isB0, ((z127).2 z126)⟩⟩) ((((z128).2).2).2)⟩⟩⟩) (((((((((h).2 z151)).2).2.2.2.2.2.2.2.2.2.2.2.2.2.2.2.2.2.2.2.2.2.2.2.2.2.2.2.2.2.2.2.2.2.2.2.2.1 (z150.trans (by decide)))).2).2).2)⟩⟩⟩, fun z150 => ⟨((((((h).2 z151)).2).2.2.2.2.2.2.2.2.2.2.2.2.2.2.2.2.2.2.2.2.2.2.2.2.2.2.2.2.2.2.2.2.2.2.2.2.2.1 (z150.trans (by decide)))).1, wp_conseq (fun _ _ z131 => ⟨(z131).1, wp_conseq (fun _ _ z130 => ⟨fun z129 => (z130).1 z129, fun z129 => ⟨isB0, ((z130).2 z129)⟩⟩) ((z131).2)⟩) (((((((h).2 z151)).2).2.2.2.2.2.2.2.2.2.2.2.2.2.2.2.2.2.2.2.2.2.2.2.2.2.2.2.2.2.2.2.2.2.2.2.2.2.1 (z150.trans (by decide)))).2)⟩, fun z150 => ⟨((((((h).2 z151)).2).2.2.2.2.2.2.2.2.2.2.2.2.2.2.2.2.2.2.2.2.2.2.2.2.2.2.2.2.2.2.2.2.2.2.2.2.2.2.1 (z150.trans (by decide)))).1, ⟨(((((((h).2 z151)).2).2.2.2.2.2.2.2.2.2.2.2.2.2.2.2.2.2.2.2.2.2.2.2.2.2.2.2.2.2.2.2.2.2.2.2.2.2.2.1 (z150.trans (by decide)))).2).1, wp_conseq (fun _ _ z134 => ⟨(z134).1, ⟨((z134).2).1, wp_conseq (fun _ _ z133 => ⟨fun z132 => (z133).1 z132, fun z132 => ⟨isB0, ((z133).2 z132)⟩⟩) (((z134).2).2)⟩⟩) ((((((((h).2 z151)).2).2.2.2.2.2.2.2.2.2.2.2.2.2.2.2.2.2.2.2.2.2.2.2.2.2.2.2.2.2.2.2.2.2.2.2.2.2.2.1 (z150.trans (by decide)))).2).2)⟩⟩, fun z150 => ⟨((((((h).2 z151)).2).2.2.2.2.2.2.2.2.2.2.2.2.2.2.2.2.2.2.2.2.2.2.2.2.2.2.2.2.2.2.2.2.2.2.2.2.2.2.2.1 (z150.trans (by decide)))).1, ⟨(((((((h).2 z151)).2).2.2.2.2.2.2.2.2.2.2.2.2.2.2.2.2.2.2.2.2.2.2.2.2.2.2.2.2.2.2.2.2.2.2.2.2.2.2.2.1 (z150.trans (by decide)))).2).1, ⟨((((((((h).2 z151)).2).2.2.2.2.2.2.2.2.2.2.2.2.2.2.2.2.2.2.2.2.2.2.2.2.2.2.2.2.2.2.2.2.2.2.2.2.2.2.2.1 (z150.trans (by decide)))).2).2).1, ⟨(((((((((h).2 z151)).2).2.2.2.2.2.2.2.2.2.2.2.2.2.2.2.2.2.2.2.2.2.2.2.2.2.2.2.2.2.2.2.2.2.2.2.2.2.2.2.1 (z150.trans (by decide)))).2).2).2).1, wp_conseq (fun _ _ z137 => ⟨(z137).1, ⟨((z137).2).1, ⟨(((z137).2).2).1, ⟨((((z137).2).2).2).1, wp_conseq (fun _ _ z136 => ⟨fun z135 => (z136).1 z135, fun z135 => ⟨isB0, ((z136).2 z135)⟩⟩) (((((z137).2).2).2).2)⟩⟩⟩⟩) ((((((((((h).2 z151)).2).2.2.2.2.2.2.2.2.2.2.2.2.2.2.2.2.2.2.2.2.2.2.2.2.2.2.2.2.2.2.2.2.2.2.2.2.2.2.2.1 (z150.trans (by decide)))).2).2).2).2)⟩⟩⟩⟩, fun z150 => wp_conseq (fun _ _ z140 => wp_conseq (fun _ _ z139 => ⟨fun z138 => (z139).1 z138, fun z138 => ⟨isB0, ((z139).2 z138)⟩⟩) (z140)) ((((((h).2 z151)).2).2.2.2.2.2.2.2.2.2.2.2.2.2.2.2.2.2.2.2.2.2.2.2.2.2.2.2.2.2.2.2.2.2.2.2.2.2.2.2.2.1 (z150.trans (by decide)))), fun z150 => wp_conseq (fun _ _ z143 => wp_conseq (fun _ _ z142 => ⟨fun z141 => (z142).1 z141, fun z141 => ⟨isB0, ((z142).2 z141)⟩⟩) (z143)) ((((((h).2 z151)).2).2.2.2.2.2.2.2.2.2.2.2.2.2.2.2.2.2.2.2.2.2.2.2.2.2.2.2.2.2.2.2.2.2.2.2.2.2.2.2.2.2.1 (z150.trans (by decide)))), fun z150 => wp_conseq (fun _ _ z146 => wp_conseq (fun _ _ z145 => ⟨fun z144 => (z145).1 z144, fun z144 => ⟨isB0, ((z145).2 z144)⟩⟩) (z146)) ((((((h).2 z151)).2).2.2.2.2.2.2.2.2.2.2.2.2.2.2.2.2.2.2.2.2.2.2.2.2.2.2.2.2.2.2.2.2.2.2.2.2.2.2.2.2.2.2.1 (z150.trans (by decide)))), fun z150 => ⟨((((((h).2 z151)).2).2.2.2.2.2.2.2.2.2.2.2.2.2.2.2.2.2.2.2.2.2.2.2.2.2.2.2.2.2.2.2.2.2.2.2.2.2.2.2.2.2.2.2 (z150.trans (by decide)))).1, wp_conseq (fun _ _ z149 => ⟨(z149).1, wp_conseq (fun _ _ z148 => ⟨fun z147 => (z148).1 z147, fun z147 => ⟨isB0, ((z148).2 z147)⟩⟩) ((z149).2)⟩) (((((((h).2 z151)).2).2.2.2.2.2.2.2.2.2.2.2.2.2.2.2.2.2.2.2.2.2.2.2.2.2.2.2.2.2.2.2.2.2.2.2.2.2.2.2.2.2.2.2 (z150.trans (by decide)))).2)⟩, trivial⟩⟩⟩))
