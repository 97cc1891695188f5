abbrev K_law_18 (N : Nat) (xs : Nat → Int) (d : Nat) (Q : Int → Mem → Prop) (x3 : Int) (σ : Mem) : Prop := XX (some (N, xs)) (wp d) c_law true Q 18 [some (.inr (.inr 1000)), some (.inr (.inr 0)), some (.inr (.inr 49)), some (.inl x3)] [] σ
set_option maxRecDepth 100000 in
set_option maxHeartbeats 16000000 in
theorem g_law_18 {N : Nat} {xs : Nat → Int} {call : Nat → List AV → Mem → (Int → Mem → Prop) → Prop} {cut : Nat → Lo → List AV → Mem → Prop} {Q : Int → Mem → Prop} {x3 : Int} {σ : Mem} (h :
  ((w32 ((N : Int) - 6)) < x3 → isB 1 ∧ Q 1 σ) ∧
  (x3 ≤ (w32 ((N : Int) - 6)) →
    (0 ≤ x3 ∧ x3 < (N : Int)) ∧ ((andI (xs x3.toNat) 63) < 0 ∨ 42 < (andI (xs x3.toNat) 63) → cut 18 [some (.inr (.inr 1000)), some (.inr (.inr 0)), some (.inr (.inr 49)), some (.inl (w32 (x3 + 6)))] [] σ) ∧
    ((andI (xs x3.toNat) 63) = 0 → (0 ≤ (w32 (x3 + 1)) ∧ (w32 (x3 + 1)) < (N : Int)) ∧ (0 ≤ (w32 (x3 + 2)) ∧ (w32 (x3 + 2)) < (N : Int)) ∧ (0 ≤ (w32 (x3 + 3)) ∧ (w32 (x3 + 3)) < (N : Int)) ∧ call m_X_feed [.inr (.inr 0), .inl (xs (w32 (x3 + 1)).toNat), .inr (.inl (orL (shlL (xs (w32 (x3 + 2)).toNat) 32) (andL (xs (w32 (x3 + 3)).toNat) 4294967295)))] σ (fun (r1 : Int) (s2 : Mem) =>
      (0 ≤ (w32 (x3 + 1)) ∧ (w32 (x3 + 1)) < (N : Int)) ∧ (0 ≤ (w32 (x3 + 2)) ∧ (w32 (x3 + 2)) < (N : Int)) ∧ (0 ≤ (w32 (x3 + 3)) ∧ (w32 (x3 + 3)) < (N : Int)) ∧ call m_M_feed [.inr (.inr 49), .inl (xs (w32 (x3 + 1)).toNat), .inr (.inl (orL (shlL (xs (w32 (x3 + 2)).toNat) 32) (andL (xs (w32 (x3 + 3)).toNat) 4294967295)))] s2 (fun (r3 : Int) (s4 : Mem) =>
        (r1 = r3 →
            cut 18 [some (.inr (.inr 1000)), some (.inr (.inr 0)), some (.inr (.inr 49)), some (.inl (w32 (x3 + 6)))] [] s4) ∧
          (¬ r1 = r3 → isB 0 ∧ Q 0 s4)))) ∧
    ((andI (xs x3.toNat) 63) = 0 + 1 → call m_X_read [.inr (.inr 0)] σ (fun (r5 : Int) (s6 : Mem) =>
      call m_M_read [.inr (.inr 49)] s6 (fun (r7 : Int) (s8 : Mem) =>
        (r5 = r7 →
            cut 18 [some (.inr (.inr 1000)), some (.inr (.inr 0)), some (.inr (.inr 49)), some (.inl (w32 (x3 + 6)))] [] s8) ∧
          (¬ r5 = r7 → isB 0 ∧ Q 0 s8)))) ∧
    ((andI (xs x3.toNat) 63) = 0 + 1 + 1 → (0 ≤ (w32 (x3 + 1)) ∧ (w32 (x3 + 1)) < (N : Int)) ∧ call m_X_weight [.inr (.inr 0), .inl (xs (w32 (x3 + 1)).toNat)] σ (fun (r9 : Int) (s10 : Mem) =>
      (0 ≤ (w32 (x3 + 1)) ∧ (w32 (x3 + 1)) < (N : Int)) ∧ call m_M_weight [.inr (.inr 49), .inl (xs (w32 (x3 + 1)).toNat)] s10 (fun (r11 : Int) (s12 : Mem) =>
        (r9 = r11 →
            cut 18 [some (.inr (.inr 1000)), some (.inr (.inr 0)), some (.inr (.inr 49)), some (.inl (w32 (x3 + 6)))] [] s12) ∧
          (¬ r9 = r11 → isB 0 ∧ Q 0 s12)))) ∧
    ((andI (xs x3.toNat) 63) = 0 + 1 + 1 + 1 → (0 ≤ (w32 (x3 + 1)) ∧ (w32 (x3 + 1)) < (N : Int)) ∧ (0 ≤ (w32 (x3 + 2)) ∧ (w32 (x3 + 2)) < (N : Int)) ∧ (0 ≤ (w32 (x3 + 3)) ∧ (w32 (x3 + 3)) < (N : Int)) ∧ call m_X_gets [.inr (.inr 0), .inl (xs (w32 (x3 + 1)).toNat), .inl (xs (w32 (x3 + 2)).toNat), .inl (xs (w32 (x3 + 3)).toNat)] σ (fun (r13 : Int) (s14 : Mem) =>
      (0 ≤ (w32 (x3 + 1)) ∧ (w32 (x3 + 1)) < (N : Int)) ∧ (0 ≤ (w32 (x3 + 2)) ∧ (w32 (x3 + 2)) < (N : Int)) ∧ (0 ≤ (w32 (x3 + 3)) ∧ (w32 (x3 + 3)) < (N : Int)) ∧ call m_M_gets [.inr (.inr 49), .inl (xs (w32 (x3 + 1)).toNat), .inl (xs (w32 (x3 + 2)).toNat), .inl (xs (w32 (x3 + 3)).toNat)] s14 (fun (r15 : Int) (s16 : Mem) =>
        (r13 = r15 →
            cut 18 [some (.inr (.inr 1000)), some (.inr (.inr 0)), some (.inr (.inr 49)), some (.inl (w32 (x3 + 6)))] [] s16) ∧
          (¬ r13 = r15 → isB 0 ∧ Q 0 s16)))) ∧
    ((andI (xs x3.toNat) 63) = 0 + 1 + 1 + 1 + 1 → (0 ≤ (w32 (x3 + 1)) ∧ (w32 (x3 + 1)) < (N : Int)) ∧ (0 ≤ (w32 (x3 + 2)) ∧ (w32 (x3 + 2)) < (N : Int)) ∧ (0 ≤ (w32 (x3 + 3)) ∧ (w32 (x3 + 3)) < (N : Int)) ∧ call m_X_second [.inr (.inr 0), .inl (xs (w32 (x3 + 1)).toNat), .inl (xs (w32 (x3 + 2)).toNat), .inl (xs (w32 (x3 + 3)).toNat)] σ (fun (r17 : Int) (s18 : Mem) =>
      (0 ≤ (w32 (x3 + 1)) ∧ (w32 (x3 + 1)) < (N : Int)) ∧ (0 ≤ (w32 (x3 + 2)) ∧ (w32 (x3 + 2)) < (N : Int)) ∧ (0 ≤ (w32 (x3 + 3)) ∧ (w32 (x3 + 3)) < (N : Int)) ∧ call m_M_second [.inr (.inr 49), .inl (xs (w32 (x3 + 1)).toNat), .inl (xs (w32 (x3 + 2)).toNat), .inl (xs (w32 (x3 + 3)).toNat)] s18 (fun (r19 : Int) (s20 : Mem) =>
        (r17 = r19 →
            cut 18 [some (.inr (.inr 1000)), some (.inr (.inr 0)), some (.inr (.inr 49)), some (.inl (w32 (x3 + 6)))] [] s20) ∧
          (¬ r17 = r19 → isB 0 ∧ Q 0 s20)))) ∧
    ((andI (xs x3.toNat) 63) = 0 + 1 + 1 + 1 + 1 + 1 → (0 ≤ (w32 (x3 + 1)) ∧ (w32 (x3 + 1)) < (N : Int)) ∧ call m_X_ties [.inr (.inr 0), .inl (xs (w32 (x3 + 1)).toNat)] σ (fun (r21 : Int) (s22 : Mem) =>
      (0 ≤ (w32 (x3 + 1)) ∧ (w32 (x3 + 1)) < (N : Int)) ∧ call m_M_ties [.inr (.inr 49), .inl (xs (w32 (x3 + 1)).toNat)] s22 (fun (r23 : Int) (s24 : Mem) =>
        (r21 = r23 →
            cut 18 [some (.inr (.inr 1000)), some (.inr (.inr 0)), some (.inr (.inr 49)), some (.inl (w32 (x3 + 6)))] [] s24) ∧
          (¬ r21 = r23 → isB 0 ∧ Q 0 s24)))) ∧
    ((andI (xs x3.toNat) 63) = 0 + 1 + 1 + 1 + 1 + 1 + 1 → (0 ≤ (w32 (x3 + 1)) ∧ (w32 (x3 + 1)) < (N : Int)) ∧ (0 ≤ (w32 (x3 + 2)) ∧ (w32 (x3 + 2)) < (N : Int)) ∧ (0 ≤ (w32 (x3 + 3)) ∧ (w32 (x3 + 3)) < (N : Int)) ∧ (0 ≤ (w32 (x3 + 4)) ∧ (w32 (x3 + 4)) < (N : Int)) ∧ call m_X_done [.inr (.inr 0), .inl (xs (w32 (x3 + 1)).toNat), .inl (xs (w32 (x3 + 2)).toNat), .inl (xs (w32 (x3 + 3)).toNat), .inl (xs (w32 (x3 + 4)).toNat)] σ (fun (r25 : Int) (s26 : Mem) =>
      (0 ≤ (w32 (x3 + 1)) ∧ (w32 (x3 + 1)) < (N : Int)) ∧ (0 ≤ (w32 (x3 + 2)) ∧ (w32 (x3 + 2)) < (N : Int)) ∧ (0 ≤ (w32 (x3 + 3)) ∧ (w32 (x3 + 3)) < (N : Int)) ∧ (0 ≤ (w32 (x3 + 4)) ∧ (w32 (x3 + 4)) < (N : Int)) ∧ call m_M_done [.inr (.inr 49), .inl (xs (w32 (x3 + 1)).toNat), .inl (xs (w32 (x3 + 2)).toNat), .inl (xs (w32 (x3 + 3)).toNat), .inl (xs (w32 (x3 + 4)).toNat)] s26 (fun (r27 : Int) (s28 : Mem) =>
        (r25 = r27 →
            cut 18 [some (.inr (.inr 1000)), some (.inr (.inr 0)), some (.inr (.inr 49)), some (.inl (w32 (x3 + 6)))] [] s28) ∧
          (¬ r25 = r27 → isB 0 ∧ Q 0 s28)))) ∧
    ((andI (xs x3.toNat) 63) = 0 + 1 + 1 + 1 + 1 + 1 + 1 + 1 → (0 ≤ (w32 (x3 + 1)) ∧ (w32 (x3 + 1)) < (N : Int)) ∧ call m_X_put [.inr (.inr 0), .inl (xs (w32 (x3 + 1)).toNat)] σ (fun (r29 : Int) (s30 : Mem) =>
      (0 ≤ (w32 (x3 + 1)) ∧ (w32 (x3 + 1)) < (N : Int)) ∧ call m_M_put [.inr (.inr 49), .inl (xs (w32 (x3 + 1)).toNat)] s30 (fun (r31 : Int) (s32 : Mem) =>
        (r29 = r31 →
            cut 18 [some (.inr (.inr 1000)), some (.inr (.inr 0)), some (.inr (.inr 49)), some (.inl (w32 (x3 + 6)))] [] s32) ∧
          (¬ r29 = r31 → isB 0 ∧ Q 0 s32)))) ∧
    ((andI (xs x3.toNat) 63) = 0 + 1 + 1 + 1 + 1 + 1 + 1 + 1 + 1 → (0 ≤ (w32 (x3 + 1)) ∧ (w32 (x3 + 1)) < (N : Int)) ∧ call m_X_look [.inr (.inr 0), .inl (xs (w32 (x3 + 1)).toNat)] σ (fun (r33 : Int) (s34 : Mem) =>
      (0 ≤ (w32 (x3 + 1)) ∧ (w32 (x3 + 1)) < (N : Int)) ∧ call m_M_look [.inr (.inr 49), .inl (xs (w32 (x3 + 1)).toNat)] s34 (fun (r35 : Int) (s36 : Mem) =>
        (r33 = r35 →
            cut 18 [some (.inr (.inr 1000)), some (.inr (.inr 0)), some (.inr (.inr 49)), some (.inl (w32 (x3 + 6)))] [] s36) ∧
          (¬ r33 = r35 → isB 0 ∧ Q 0 s36)))) ∧
    ((andI (xs x3.toNat) 63) = 0 + 1 + 1 + 1 + 1 + 1 + 1 + 1 + 1 + 1 → (0 ≤ (w32 (x3 + 1)) ∧ (w32 (x3 + 1)) < (N : Int)) ∧ call m_X_plain [.inr (.inr 0), .inl (xs (w32 (x3 + 1)).toNat)] σ (fun (r37 : Int) (s38 : Mem) =>
      (0 ≤ (w32 (x3 + 1)) ∧ (w32 (x3 + 1)) < (N : Int)) ∧ call m_M_plain [.inr (.inr 49), .inl (xs (w32 (x3 + 1)).toNat)] s38 (fun (r39 : Int) (s40 : Mem) =>
        (r37 = r39 →
            cut 18 [some (.inr (.inr 1000)), some (.inr (.inr 0)), some (.inr (.inr 49)), some (.inl (w32 (x3 + 6)))] [] s40) ∧
          (¬ r37 = r39 → isB 0 ∧ Q 0 s40)))) ∧
    ((andI (xs x3.toNat) 63) = 0 + 1 + 1 + 1 + 1 + 1 + 1 + 1 + 1 + 1 + 1 → (0 ≤ (w32 (x3 + 1)) ∧ (w32 (x3 + 1)) < (N : Int)) ∧ call m_X_bar [.inr (.inr 0), .inl (xs (w32 (x3 + 1)).toNat)] σ (fun (r41 : Int) (s42 : Mem) =>
      (0 ≤ (w32 (x3 + 1)) ∧ (w32 (x3 + 1)) < (N : Int)) ∧ call m_M_bar [.inr (.inr 49), .inl (xs (w32 (x3 + 1)).toNat)] s42 (fun (r43 : Int) (s44 : Mem) =>
        (r41 = r43 →
            cut 18 [some (.inr (.inr 1000)), some (.inr (.inr 0)), some (.inr (.inr 49)), some (.inl (w32 (x3 + 6)))] [] s44) ∧
          (¬ r41 = r43 → isB 0 ∧ Q 0 s44)))) ∧
    ((andI (xs x3.toNat) 63) = 0 + 1 + 1 + 1 + 1 + 1 + 1 + 1 + 1 + 1 + 1 + 1 → (0 ≤ (w32 (x3 + 1)) ∧ (w32 (x3 + 1)) < (N : Int)) ∧ (0 ≤ (w32 (x3 + 2)) ∧ (w32 (x3 + 2)) < (N : Int)) ∧ (0 ≤ (w32 (x3 + 3)) ∧ (w32 (x3 + 3)) < (N : Int)) ∧ call m_X_mix [.inr (.inr 0), .inl (xs (w32 (x3 + 1)).toNat), .inl (xs (w32 (x3 + 2)).toNat), .inl (xs (w32 (x3 + 3)).toNat)] σ (fun (r45 : Int) (s46 : Mem) =>
      (0 ≤ (w32 (x3 + 1)) ∧ (w32 (x3 + 1)) < (N : Int)) ∧ (0 ≤ (w32 (x3 + 2)) ∧ (w32 (x3 + 2)) < (N : Int)) ∧ (0 ≤ (w32 (x3 + 3)) ∧ (w32 (x3 + 3)) < (N : Int)) ∧ call m_M_mix [.inr (.inr 49), .inl (xs (w32 (x3 + 1)).toNat), .inl (xs (w32 (x3 + 2)).toNat), .inl (xs (w32 (x3 + 3)).toNat)] s46 (fun (r47 : Int) (s48 : Mem) =>
        (r45 = r47 →
            cut 18 [some (.inr (.inr 1000)), some (.inr (.inr 0)), some (.inr (.inr 49)), some (.inl (w32 (x3 + 6)))] [] s48) ∧
          (¬ r45 = r47 → isB 0 ∧ Q 0 s48)))) ∧
    ((andI (xs x3.toNat) 63) = 0 + 1 + 1 + 1 + 1 + 1 + 1 + 1 + 1 + 1 + 1 + 1 + 1 → (0 ≤ (w32 (x3 + 1)) ∧ (w32 (x3 + 1)) < (N : Int)) ∧ (0 ≤ (w32 (x3 + 2)) ∧ (w32 (x3 + 2)) < (N : Int)) ∧ (0 ≤ (w32 (x3 + 3)) ∧ (w32 (x3 + 3)) < (N : Int)) ∧ call m_X_meld [.inr (.inr 0), .inl (xs (w32 (x3 + 1)).toNat), .inl (xs (w32 (x3 + 2)).toNat), .inl (xs (w32 (x3 + 3)).toNat)] σ (fun (r49 : Int) (s50 : Mem) =>
      (0 ≤ (w32 (x3 + 1)) ∧ (w32 (x3 + 1)) < (N : Int)) ∧ (0 ≤ (w32 (x3 + 2)) ∧ (w32 (x3 + 2)) < (N : Int)) ∧ (0 ≤ (w32 (x3 + 3)) ∧ (w32 (x3 + 3)) < (N : Int)) ∧ call m_M_meld [.inr (.inr 49), .inl (xs (w32 (x3 + 1)).toNat), .inl (xs (w32 (x3 + 2)).toNat), .inl (xs (w32 (x3 + 3)).toNat)] s50 (fun (r51 : Int) (s52 : Mem) =>
        (r49 = r51 →
            cut 18 [some (.inr (.inr 1000)), some (.inr (.inr 0)), some (.inr (.inr 49)), some (.inl (w32 (x3 + 6)))] [] s52) ∧
          (¬ r49 = r51 → isB 0 ∧ Q 0 s52)))) ∧
    ((andI (xs x3.toNat) 63) = 0 + 1 + 1 + 1 + 1 + 1 + 1 + 1 + 1 + 1 + 1 + 1 + 1 + 1 → (0 ≤ (w32 (x3 + 1)) ∧ (w32 (x3 + 1)) < (N : Int)) ∧ call m_X_signs [.inr (.inr 0), .inl (xs (w32 (x3 + 1)).toNat)] σ (fun (r53 : Int) (s54 : Mem) =>
      (0 ≤ (w32 (x3 + 1)) ∧ (w32 (x3 + 1)) < (N : Int)) ∧ call m_M_signs [.inr (.inr 49), .inl (xs (w32 (x3 + 1)).toNat)] s54 (fun (r55 : Int) (s56 : Mem) =>
        (r53 = r55 →
            cut 18 [some (.inr (.inr 1000)), some (.inr (.inr 0)), some (.inr (.inr 49)), some (.inl (w32 (x3 + 6)))] [] s56) ∧
          (¬ r53 = r55 → isB 0 ∧ Q 0 s56)))) ∧
    ((andI (xs x3.toNat) 63) = 0 + 1 + 1 + 1 + 1 + 1 + 1 + 1 + 1 + 1 + 1 + 1 + 1 + 1 + 1 → (0 ≤ (w32 (x3 + 1)) ∧ (w32 (x3 + 1)) < (N : Int)) ∧ (0 ≤ (w32 (x3 + 2)) ∧ (w32 (x3 + 2)) < (N : Int)) ∧ (0 ≤ (w32 (x3 + 3)) ∧ (w32 (x3 + 3)) < (N : Int)) ∧ call m_X_parts [.inr (.inr 0), .inl (xs (w32 (x3 + 1)).toNat), .inl (xs (w32 (x3 + 2)).toNat), .inl (xs (w32 (x3 + 3)).toNat)] σ (fun (r57 : Int) (s58 : Mem) =>
      (0 ≤ (w32 (x3 + 1)) ∧ (w32 (x3 + 1)) < (N : Int)) ∧ (0 ≤ (w32 (x3 + 2)) ∧ (w32 (x3 + 2)) < (N : Int)) ∧ (0 ≤ (w32 (x3 + 3)) ∧ (w32 (x3 + 3)) < (N : Int)) ∧ call m_M_parts [.inr (.inr 49), .inl (xs (w32 (x3 + 1)).toNat), .inl (xs (w32 (x3 + 2)).toNat), .inl (xs (w32 (x3 + 3)).toNat)] s58 (fun (r59 : Int) (s60 : Mem) =>
        (r57 = r59 →
            cut 18 [some (.inr (.inr 1000)), some (.inr (.inr 0)), some (.inr (.inr 49)), some (.inl (w32 (x3 + 6)))] [] s60) ∧
          (¬ r57 = r59 → isB 0 ∧ Q 0 s60)))) ∧
    ((andI (xs x3.toNat) 63) = 0 + 1 + 1 + 1 + 1 + 1 + 1 + 1 + 1 + 1 + 1 + 1 + 1 + 1 + 1 + 1 → (0 ≤ (w32 (x3 + 1)) ∧ (w32 (x3 + 1)) < (N : Int)) ∧ (0 ≤ (w32 (x3 + 2)) ∧ (w32 (x3 + 2)) < (N : Int)) ∧ (0 ≤ (w32 (x3 + 3)) ∧ (w32 (x3 + 3)) < (N : Int)) ∧ call m_X_leaves [.inr (.inr 0), .inl (xs (w32 (x3 + 1)).toNat), .inl (xs (w32 (x3 + 2)).toNat), .inl (xs (w32 (x3 + 3)).toNat)] σ (fun (r61 : Int) (s62 : Mem) =>
      (0 ≤ (w32 (x3 + 1)) ∧ (w32 (x3 + 1)) < (N : Int)) ∧ (0 ≤ (w32 (x3 + 2)) ∧ (w32 (x3 + 2)) < (N : Int)) ∧ (0 ≤ (w32 (x3 + 3)) ∧ (w32 (x3 + 3)) < (N : Int)) ∧ call m_M_leaves [.inr (.inr 49), .inl (xs (w32 (x3 + 1)).toNat), .inl (xs (w32 (x3 + 2)).toNat), .inl (xs (w32 (x3 + 3)).toNat)] s62 (fun (r63 : Int) (s64 : Mem) =>
        (r61 = r63 →
            cut 18 [some (.inr (.inr 1000)), some (.inr (.inr 0)), some (.inr (.inr 49)), some (.inl (w32 (x3 + 6)))] [] s64) ∧
          (¬ r61 = r63 → isB 0 ∧ Q 0 s64)))) ∧
    ((andI (xs x3.toNat) 63) = 0 + 1 + 1 + 1 + 1 + 1 + 1 + 1 + 1 + 1 + 1 + 1 + 1 + 1 + 1 + 1 + 1 → (0 ≤ (w32 (x3 + 1)) ∧ (w32 (x3 + 1)) < (N : Int)) ∧ (0 ≤ (w32 (x3 + 2)) ∧ (w32 (x3 + 2)) < (N : Int)) ∧ call m_X_does [.inr (.inr 0), .inl (xs (w32 (x3 + 1)).toNat), .inl (xs (w32 (x3 + 2)).toNat)] σ (fun (r65 : Int) (s66 : Mem) =>
      (0 ≤ (w32 (x3 + 1)) ∧ (w32 (x3 + 1)) < (N : Int)) ∧ (0 ≤ (w32 (x3 + 2)) ∧ (w32 (x3 + 2)) < (N : Int)) ∧ call m_M_does [.inr (.inr 49), .inl (xs (w32 (x3 + 1)).toNat), .inl (xs (w32 (x3 + 2)).toNat)] s66 (fun (r67 : Int) (s68 : Mem) =>
        (r65 = r67 →
            cut 18 [some (.inr (.inr 1000)), some (.inr (.inr 0)), some (.inr (.inr 49)), some (.inl (w32 (x3 + 6)))] [] s68) ∧
          (¬ r65 = r67 → isB 0 ∧ Q 0 s68)))) ∧
    ((andI (xs x3.toNat) 63) = 0 + 1 + 1 + 1 + 1 + 1 + 1 + 1 + 1 + 1 + 1 + 1 + 1 + 1 + 1 + 1 + 1 + 1 → (0 ≤ (w32 (x3 + 1)) ∧ (w32 (x3 + 1)) < (N : Int)) ∧ (0 ≤ (w32 (x3 + 2)) ∧ (w32 (x3 + 2)) < (N : Int)) ∧ ((xs (w32 (x3 + 2)).toNat) = 0 →
        (0 ≤ (w32 (x3 + 3)) ∧ (w32 (x3 + 3)) < (N : Int)) ∧ call m_X_worth [.inr (.inr 0), .inl (xs (w32 (x3 + 1)).toNat), .inl 0, .inl (xs (w32 (x3 + 3)).toNat)] σ (fun (r69 : Int) (s70 : Mem) =>
        (0 ≤ (w32 (x3 + 1)) ∧ (w32 (x3 + 1)) < (N : Int)) ∧ (0 ≤ (w32 (x3 + 2)) ∧ (w32 (x3 + 2)) < (N : Int)) ∧ ((xs (w32 (x3 + 2)).toNat) = 0 →
            (0 ≤ (w32 (x3 + 3)) ∧ (w32 (x3 + 3)) < (N : Int)) ∧ call m_M_worth [.inr (.inr 49), .inl (xs (w32 (x3 + 1)).toNat), .inl 0, .inl (xs (w32 (x3 + 3)).toNat)] s70 (fun (r71 : Int) (s72 : Mem) =>
            (r69 = r71 →
                cut 18 [some (.inr (.inr 1000)), some (.inr (.inr 0)), some (.inr (.inr 49)), some (.inl (w32 (x3 + 6)))] [] s72) ∧
              (¬ r69 = r71 → isB 0 ∧ Q 0 s72))) ∧
          (¬ (xs (w32 (x3 + 2)).toNat) = 0 →
            (0 ≤ (w32 (x3 + 3)) ∧ (w32 (x3 + 3)) < (N : Int)) ∧ call m_M_worth [.inr (.inr 49), .inl (xs (w32 (x3 + 1)).toNat), .inl 1, .inl (xs (w32 (x3 + 3)).toNat)] s70 (fun (r73 : Int) (s74 : Mem) =>
            (r69 = r73 →
                cut 18 [some (.inr (.inr 1000)), some (.inr (.inr 0)), some (.inr (.inr 49)), some (.inl (w32 (x3 + 6)))] [] s74) ∧
              (¬ r69 = r73 → isB 0 ∧ Q 0 s74))))) ∧
      (¬ (xs (w32 (x3 + 2)).toNat) = 0 →
        (0 ≤ (w32 (x3 + 3)) ∧ (w32 (x3 + 3)) < (N : Int)) ∧ call m_X_worth [.inr (.inr 0), .inl (xs (w32 (x3 + 1)).toNat), .inl 1, .inl (xs (w32 (x3 + 3)).toNat)] σ (fun (r75 : Int) (s76 : Mem) =>
        (0 ≤ (w32 (x3 + 1)) ∧ (w32 (x3 + 1)) < (N : Int)) ∧ (0 ≤ (w32 (x3 + 2)) ∧ (w32 (x3 + 2)) < (N : Int)) ∧ ((xs (w32 (x3 + 2)).toNat) = 0 →
            (0 ≤ (w32 (x3 + 3)) ∧ (w32 (x3 + 3)) < (N : Int)) ∧ call m_M_worth [.inr (.inr 49), .inl (xs (w32 (x3 + 1)).toNat), .inl 0, .inl (xs (w32 (x3 + 3)).toNat)] s76 (fun (r77 : Int) (s78 : Mem) =>
            (r75 = r77 →
                cut 18 [some (.inr (.inr 1000)), some (.inr (.inr 0)), some (.inr (.inr 49)), some (.inl (w32 (x3 + 6)))] [] s78) ∧
              (¬ r75 = r77 → isB 0 ∧ Q 0 s78))) ∧
          (¬ (xs (w32 (x3 + 2)).toNat) = 0 →
            (0 ≤ (w32 (x3 + 3)) ∧ (w32 (x3 + 3)) < (N : Int)) ∧ call m_M_worth [.inr (.inr 49), .inl (xs (w32 (x3 + 1)).toNat), .inl 1, .inl (xs (w32 (x3 + 3)).toNat)] s76 (fun (r79 : Int) (s80 : Mem) =>
            (r75 = r79 →
                cut 18 [some (.inr (.inr 1000)), some (.inr (.inr 0)), some (.inr (.inr 49)), some (.inl (w32 (x3 + 6)))] [] s80) ∧
              (¬ r75 = r79 → isB 0 ∧ Q 0 s80)))))) ∧
    ((andI (xs x3.toNat) 63) = 0 + 1 + 1 + 1 + 1 + 1 + 1 + 1 + 1 + 1 + 1 + 1 + 1 + 1 + 1 + 1 + 1 + 1 + 1 → (0 ≤ (w32 (x3 + 1)) ∧ (w32 (x3 + 1)) < (N : Int)) ∧ (0 ≤ (w32 (x3 + 2)) ∧ (w32 (x3 + 2)) < (N : Int)) ∧ call m_X_harm [.inr (.inr 0), .inl (xs (w32 (x3 + 1)).toNat), .inl (xs (w32 (x3 + 2)).toNat)] σ (fun (r81 : Int) (s82 : Mem) =>
      (0 ≤ (w32 (x3 + 1)) ∧ (w32 (x3 + 1)) < (N : Int)) ∧ (0 ≤ (w32 (x3 + 2)) ∧ (w32 (x3 + 2)) < (N : Int)) ∧ call m_M_harm [.inr (.inr 49), .inl (xs (w32 (x3 + 1)).toNat), .inl (xs (w32 (x3 + 2)).toNat)] s82 (fun (r83 : Int) (s84 : Mem) =>
        (r81 = r83 →
            cut 18 [some (.inr (.inr 1000)), some (.inr (.inr 0)), some (.inr (.inr 49)), some (.inl (w32 (x3 + 6)))] [] s84) ∧
          (¬ r81 = r83 → isB 0 ∧ Q 0 s84)))) ∧
    ((andI (xs x3.toNat) 63) = 0 + 1 + 1 + 1 + 1 + 1 + 1 + 1 + 1 + 1 + 1 + 1 + 1 + 1 + 1 + 1 + 1 + 1 + 1 + 1 → (0 ≤ (w32 (x3 + 1)) ∧ (w32 (x3 + 1)) < (N : Int)) ∧ (0 ≤ (w32 (x3 + 2)) ∧ (w32 (x3 + 2)) < (N : Int)) ∧ (0 ≤ (w32 (x3 + 3)) ∧ (w32 (x3 + 3)) < (N : Int)) ∧ (0 ≤ (w32 (x3 + 4)) ∧ (w32 (x3 + 4)) < (N : Int)) ∧ (0 ≤ (w32 (x3 + 5)) ∧ (w32 (x3 + 5)) < (N : Int)) ∧ call m_X_think [.inr (.inr 0), .inl (xs (w32 (x3 + 1)).toNat), .inl (xs (w32 (x3 + 2)).toNat), .inl (xs (w32 (x3 + 3)).toNat), .inl (xs (w32 (x3 + 4)).toNat), .inl (xs (w32 (x3 + 5)).toNat)] σ (fun (r85 : Int) (s86 : Mem) =>
      (0 ≤ (w32 (x3 + 1)) ∧ (w32 (x3 + 1)) < (N : Int)) ∧ (0 ≤ (w32 (x3 + 2)) ∧ (w32 (x3 + 2)) < (N : Int)) ∧ (0 ≤ (w32 (x3 + 3)) ∧ (w32 (x3 + 3)) < (N : Int)) ∧ (0 ≤ (w32 (x3 + 4)) ∧ (w32 (x3 + 4)) < (N : Int)) ∧ (0 ≤ (w32 (x3 + 5)) ∧ (w32 (x3 + 5)) < (N : Int)) ∧ call m_M_think [.inr (.inr 49), .inl (xs (w32 (x3 + 1)).toNat), .inl (xs (w32 (x3 + 2)).toNat), .inl (xs (w32 (x3 + 3)).toNat), .inl (xs (w32 (x3 + 4)).toNat), .inl (xs (w32 (x3 + 5)).toNat)] s86 (fun (r87 : Int) (s88 : Mem) =>
        (r85 = r87 →
            cut 18 [some (.inr (.inr 1000)), some (.inr (.inr 0)), some (.inr (.inr 49)), some (.inl (w32 (x3 + 6)))] [] s88) ∧
          (¬ r85 = r87 → isB 0 ∧ Q 0 s88)))) ∧
    ((andI (xs x3.toNat) 63) = 0 + 1 + 1 + 1 + 1 + 1 + 1 + 1 + 1 + 1 + 1 + 1 + 1 + 1 + 1 + 1 + 1 + 1 + 1 + 1 + 1 → call m_X_forget [.inr (.inr 0)] σ (fun (r89 : Int) (s90 : Mem) =>
      call m_M_forget [.inr (.inr 49)] s90 (fun (r91 : Int) (s92 : Mem) =>
        (r89 = r91 →
            cut 18 [some (.inr (.inr 1000)), some (.inr (.inr 0)), some (.inr (.inr 49)), some (.inl (w32 (x3 + 6)))] [] s92) ∧
          (¬ r89 = r91 → isB 0 ∧ Q 0 s92)))) ∧
    ((andI (xs x3.toNat) 63) = 0 + 1 + 1 + 1 + 1 + 1 + 1 + 1 + 1 + 1 + 1 + 1 + 1 + 1 + 1 + 1 + 1 + 1 + 1 + 1 + 1 + 1 → call m_X_made [.inr (.inr 0)] σ (fun (r93 : Int) (s94 : Mem) =>
      call m_M_made [.inr (.inr 49)] s94 (fun (r95 : Int) (s96 : Mem) =>
        (r93 = r95 →
            cut 18 [some (.inr (.inr 1000)), some (.inr (.inr 0)), some (.inr (.inr 49)), some (.inl (w32 (x3 + 6)))] [] s96) ∧
          (¬ r93 = r95 → isB 0 ∧ Q 0 s96)))) ∧
    ((andI (xs x3.toNat) 63) = 0 + 1 + 1 + 1 + 1 + 1 + 1 + 1 + 1 + 1 + 1 + 1 + 1 + 1 + 1 + 1 + 1 + 1 + 1 + 1 + 1 + 1 + 1 → (0 ≤ (w32 (x3 + 1)) ∧ (w32 (x3 + 1)) < (N : Int)) ∧ (0 ≤ (w32 (x3 + 2)) ∧ (w32 (x3 + 2)) < (N : Int)) ∧ (0 ≤ (w32 (x3 + 3)) ∧ (w32 (x3 + 3)) < (N : Int)) ∧ call m_X_chance [.inr (.inr 0), .inl (xs (w32 (x3 + 1)).toNat), .inl (xs (w32 (x3 + 2)).toNat), .inl (xs (w32 (x3 + 3)).toNat)] σ (fun (r97 : Int) (s98 : Mem) =>
      (0 ≤ (w32 (x3 + 1)) ∧ (w32 (x3 + 1)) < (N : Int)) ∧ (0 ≤ (w32 (x3 + 2)) ∧ (w32 (x3 + 2)) < (N : Int)) ∧ (0 ≤ (w32 (x3 + 3)) ∧ (w32 (x3 + 3)) < (N : Int)) ∧ call m_M_chance [.inr (.inr 49), .inl (xs (w32 (x3 + 1)).toNat), .inl (xs (w32 (x3 + 2)).toNat), .inl (xs (w32 (x3 + 3)).toNat)] s98 (fun (r99 : Int) (s100 : Mem) =>
        (r97 = r99 →
            cut 18 [some (.inr (.inr 1000)), some (.inr (.inr 0)), some (.inr (.inr 49)), some (.inl (w32 (x3 + 6)))] [] s100) ∧
          (¬ r97 = r99 → isB 0 ∧ Q 0 s100)))) ∧
    ((andI (xs x3.toNat) 63) = 0 + 1 + 1 + 1 + 1 + 1 + 1 + 1 + 1 + 1 + 1 + 1 + 1 + 1 + 1 + 1 + 1 + 1 + 1 + 1 + 1 + 1 + 1 + 1 → call m_X_edges [.inr (.inr 0)] σ (fun (r101 : Int) (s102 : Mem) =>
      call m_M_edges [.inr (.inr 49)] s102 (fun (r103 : Int) (s104 : Mem) =>
        (r101 = r103 →
            cut 18 [some (.inr (.inr 1000)), some (.inr (.inr 0)), some (.inr (.inr 49)), some (.inl (w32 (x3 + 6)))] [] s104) ∧
          (¬ r101 = r103 → isB 0 ∧ Q 0 s104)))) ∧
    ((andI (xs x3.toNat) 63) = 0 + 1 + 1 + 1 + 1 + 1 + 1 + 1 + 1 + 1 + 1 + 1 + 1 + 1 + 1 + 1 + 1 + 1 + 1 + 1 + 1 + 1 + 1 + 1 + 1 → (0 ≤ (w32 (x3 + 1)) ∧ (w32 (x3 + 1)) < (N : Int)) ∧ (0 ≤ (w32 (x3 + 2)) ∧ (w32 (x3 + 2)) < (N : Int)) ∧ call m_X_edge [.inr (.inr 0), .inl (xs (w32 (x3 + 1)).toNat), .inl (xs (w32 (x3 + 2)).toNat)] σ (fun (r105 : Int) (s106 : Mem) =>
      (0 ≤ (w32 (x3 + 1)) ∧ (w32 (x3 + 1)) < (N : Int)) ∧ (0 ≤ (w32 (x3 + 2)) ∧ (w32 (x3 + 2)) < (N : Int)) ∧ call m_M_edge [.inr (.inr 49), .inl (xs (w32 (x3 + 1)).toNat), .inl (xs (w32 (x3 + 2)).toNat)] s106 (fun (r107 : Int) (s108 : Mem) =>
        (r105 = r107 →
            cut 18 [some (.inr (.inr 1000)), some (.inr (.inr 0)), some (.inr (.inr 49)), some (.inl (w32 (x3 + 6)))] [] s108) ∧
          (¬ r105 = r107 → isB 0 ∧ Q 0 s108)))) ∧
    ((andI (xs x3.toNat) 63) = 0 + 1 + 1 + 1 + 1 + 1 + 1 + 1 + 1 + 1 + 1 + 1 + 1 + 1 + 1 + 1 + 1 + 1 + 1 + 1 + 1 + 1 + 1 + 1 + 1 + 1 → (0 ≤ (w32 (x3 + 1)) ∧ (w32 (x3 + 1)) < (N : Int)) ∧ (0 ≤ (w32 (x3 + 2)) ∧ (w32 (x3 + 2)) < (N : Int)) ∧ call m_X_value [.inr (.inr 0), .inl (xs (w32 (x3 + 1)).toNat), .inl (xs (w32 (x3 + 2)).toNat)] σ (fun (r109 : Int) (s110 : Mem) =>
      (0 ≤ (w32 (x3 + 1)) ∧ (w32 (x3 + 1)) < (N : Int)) ∧ (0 ≤ (w32 (x3 + 2)) ∧ (w32 (x3 + 2)) < (N : Int)) ∧ call m_M_value [.inr (.inr 49), .inl (xs (w32 (x3 + 1)).toNat), .inl (xs (w32 (x3 + 2)).toNat)] s110 (fun (r111 : Int) (s112 : Mem) =>
        (r109 = r111 →
            cut 18 [some (.inr (.inr 1000)), some (.inr (.inr 0)), some (.inr (.inr 49)), some (.inl (w32 (x3 + 6)))] [] s112) ∧
          (¬ r109 = r111 → isB 0 ∧ Q 0 s112)))) ∧
    ((andI (xs x3.toNat) 63) = 0 + 1 + 1 + 1 + 1 + 1 + 1 + 1 + 1 + 1 + 1 + 1 + 1 + 1 + 1 + 1 + 1 + 1 + 1 + 1 + 1 + 1 + 1 + 1 + 1 + 1 + 1 → (0 ≤ (w32 (x3 + 1)) ∧ (w32 (x3 + 1)) < (N : Int)) ∧ (0 ≤ (w32 (x3 + 2)) ∧ (w32 (x3 + 2)) < (N : Int)) ∧ call m_X_best [.inr (.inr 0), .inl (xs (w32 (x3 + 1)).toNat), .inl (xs (w32 (x3 + 2)).toNat)] σ (fun (r113 : Int) (s114 : Mem) =>
      (0 ≤ (w32 (x3 + 1)) ∧ (w32 (x3 + 1)) < (N : Int)) ∧ (0 ≤ (w32 (x3 + 2)) ∧ (w32 (x3 + 2)) < (N : Int)) ∧ call m_M_best [.inr (.inr 49), .inl (xs (w32 (x3 + 1)).toNat), .inl (xs (w32 (x3 + 2)).toNat)] s114 (fun (r115 : Int) (s116 : Mem) =>
        (r113 = r115 →
            cut 18 [some (.inr (.inr 1000)), some (.inr (.inr 0)), some (.inr (.inr 49)), some (.inl (w32 (x3 + 6)))] [] s116) ∧
          (¬ r113 = r115 → isB 0 ∧ Q 0 s116)))) ∧
    ((andI (xs x3.toNat) 63) = 0 + 1 + 1 + 1 + 1 + 1 + 1 + 1 + 1 + 1 + 1 + 1 + 1 + 1 + 1 + 1 + 1 + 1 + 1 + 1 + 1 + 1 + 1 + 1 + 1 + 1 + 1 + 1 → call m_X_corners [.inr (.inr 0)] σ (fun (r117 : Int) (s118 : Mem) =>
      call m_M_corners [.inr (.inr 49)] s118 (fun (r119 : Int) (s120 : Mem) =>
        (r117 = r119 →
            cut 18 [some (.inr (.inr 1000)), some (.inr (.inr 0)), some (.inr (.inr 49)), some (.inl (w32 (x3 + 6)))] [] s120) ∧
          (¬ r117 = r119 → isB 0 ∧ Q 0 s120)))) ∧
    ((andI (xs x3.toNat) 63) = 0 + 1 + 1 + 1 + 1 + 1 + 1 + 1 + 1 + 1 + 1 + 1 + 1 + 1 + 1 + 1 + 1 + 1 + 1 + 1 + 1 + 1 + 1 + 1 + 1 + 1 + 1 + 1 + 1 → (0 ≤ (w32 (x3 + 1)) ∧ (w32 (x3 + 1)) < (N : Int)) ∧ (0 ≤ (w32 (x3 + 2)) ∧ (w32 (x3 + 2)) < (N : Int)) ∧ (0 ≤ (w32 (x3 + 3)) ∧ (w32 (x3 + 3)) < (N : Int)) ∧ (0 ≤ (w32 (x3 + 4)) ∧ (w32 (x3 + 4)) < (N : Int)) ∧ call m_X_prove [.inr (.inr 0), .inl (xs (w32 (x3 + 1)).toNat), .inl (xs (w32 (x3 + 2)).toNat), .inl (xs (w32 (x3 + 3)).toNat), .inl (xs (w32 (x3 + 4)).toNat)] σ (fun (r121 : Int) (s122 : Mem) =>
      (0 ≤ (w32 (x3 + 1)) ∧ (w32 (x3 + 1)) < (N : Int)) ∧ (0 ≤ (w32 (x3 + 2)) ∧ (w32 (x3 + 2)) < (N : Int)) ∧ (0 ≤ (w32 (x3 + 3)) ∧ (w32 (x3 + 3)) < (N : Int)) ∧ (0 ≤ (w32 (x3 + 4)) ∧ (w32 (x3 + 4)) < (N : Int)) ∧ call m_M_prove [.inr (.inr 49), .inl (xs (w32 (x3 + 1)).toNat), .inl (xs (w32 (x3 + 2)).toNat), .inl (xs (w32 (x3 + 3)).toNat), .inl (xs (w32 (x3 + 4)).toNat)] s122 (fun (r123 : Int) (s124 : Mem) =>
        (r121 = r123 →
            cut 18 [some (.inr (.inr 1000)), some (.inr (.inr 0)), some (.inr (.inr 49)), some (.inl (w32 (x3 + 6)))] [] s124) ∧
          (¬ r121 = r123 → isB 0 ∧ Q 0 s124)))) ∧
    ((andI (xs x3.toNat) 63) = 0 + 1 + 1 + 1 + 1 + 1 + 1 + 1 + 1 + 1 + 1 + 1 + 1 + 1 + 1 + 1 + 1 + 1 + 1 + 1 + 1 + 1 + 1 + 1 + 1 + 1 + 1 + 1 + 1 + 1 → (0 ≤ (w32 (x3 + 1)) ∧ (w32 (x3 + 1)) < (N : Int)) ∧ (0 ≤ (w32 (x3 + 2)) ∧ (w32 (x3 + 2)) < (N : Int)) ∧ call m_X_test [.inr (.inr 0), .inl (xs (w32 (x3 + 1)).toNat), .inl (xs (w32 (x3 + 2)).toNat)] σ (fun (r125 : Int) (s126 : Mem) =>
      (0 ≤ (w32 (x3 + 1)) ∧ (w32 (x3 + 1)) < (N : Int)) ∧ (0 ≤ (w32 (x3 + 2)) ∧ (w32 (x3 + 2)) < (N : Int)) ∧ call m_M_test [.inr (.inr 49), .inl (xs (w32 (x3 + 1)).toNat), .inl (xs (w32 (x3 + 2)).toNat)] s126 (fun (r127 : Int) (s128 : Mem) =>
        (r125 = r127 →
            cut 18 [some (.inr (.inr 1000)), some (.inr (.inr 0)), some (.inr (.inr 49)), some (.inl (w32 (x3 + 6)))] [] s128) ∧
          (¬ r125 = r127 → isB 0 ∧ Q 0 s128)))) ∧
    ((andI (xs x3.toNat) 63) = 0 + 1 + 1 + 1 + 1 + 1 + 1 + 1 + 1 + 1 + 1 + 1 + 1 + 1 + 1 + 1 + 1 + 1 + 1 + 1 + 1 + 1 + 1 + 1 + 1 + 1 + 1 + 1 + 1 + 1 + 1 → (0 ≤ (w32 (x3 + 1)) ∧ (w32 (x3 + 1)) < (N : Int)) ∧ (0 ≤ (w32 (x3 + 2)) ∧ (w32 (x3 + 2)) < (N : Int)) ∧ call m_X_set [.inr (.inr 0), .inl (xs (w32 (x3 + 1)).toNat), .inl (xs (w32 (x3 + 2)).toNat)] σ (fun (r129 : Int) (s130 : Mem) =>
      (0 ≤ (w32 (x3 + 1)) ∧ (w32 (x3 + 1)) < (N : Int)) ∧ (0 ≤ (w32 (x3 + 2)) ∧ (w32 (x3 + 2)) < (N : Int)) ∧ call m_M_set [.inr (.inr 49), .inl (xs (w32 (x3 + 1)).toNat), .inl (xs (w32 (x3 + 2)).toNat)] s130 (fun (r131 : Int) (s132 : Mem) =>
        (r129 = r131 →
            cut 18 [some (.inr (.inr 1000)), some (.inr (.inr 0)), some (.inr (.inr 49)), some (.inl (w32 (x3 + 6)))] [] s132) ∧
          (¬ r129 = r131 → isB 0 ∧ Q 0 s132)))) ∧
    ((andI (xs x3.toNat) 63) = 0 + 1 + 1 + 1 + 1 + 1 + 1 + 1 + 1 + 1 + 1 + 1 + 1 + 1 + 1 + 1 + 1 + 1 + 1 + 1 + 1 + 1 + 1 + 1 + 1 + 1 + 1 + 1 + 1 + 1 + 1 + 1 → call m_X_chosen [.inr (.inr 0)] σ (fun (r133 : Int) (s134 : Mem) =>
      call m_M_chosen [.inr (.inr 49)] s134 (fun (r135 : Int) (s136 : Mem) =>
        (r133 = r135 →
            cut 18 [some (.inr (.inr 1000)), some (.inr (.inr 0)), some (.inr (.inr 49)), some (.inl (w32 (x3 + 6)))] [] s136) ∧
          (¬ r133 = r135 → isB 0 ∧ Q 0 s136)))) ∧
    ((andI (xs x3.toNat) 63) = 0 + 1 + 1 + 1 + 1 + 1 + 1 + 1 + 1 + 1 + 1 + 1 + 1 + 1 + 1 + 1 + 1 + 1 + 1 + 1 + 1 + 1 + 1 + 1 + 1 + 1 + 1 + 1 + 1 + 1 + 1 + 1 + 1 → (0 ≤ (w32 (x3 + 1)) ∧ (w32 (x3 + 1)) < (N : Int)) ∧ (0 ≤ (w32 (x3 + 2)) ∧ (w32 (x3 + 2)) < (N : Int)) ∧ call m_X_enough [.inr (.inr 0), .inl (xs (w32 (x3 + 1)).toNat), .inl (xs (w32 (x3 + 2)).toNat)] σ (fun (r137 : Int) (s138 : Mem) =>
      (0 ≤ (w32 (x3 + 1)) ∧ (w32 (x3 + 1)) < (N : Int)) ∧ (0 ≤ (w32 (x3 + 2)) ∧ (w32 (x3 + 2)) < (N : Int)) ∧ call m_M_enough [.inr (.inr 49), .inl (xs (w32 (x3 + 1)).toNat), .inl (xs (w32 (x3 + 2)).toNat)] s138 (fun (r139 : Int) (s140 : Mem) =>
        (r137 = r139 →
            cut 18 [some (.inr (.inr 1000)), some (.inr (.inr 0)), some (.inr (.inr 49)), some (.inl (w32 (x3 + 6)))] [] s140) ∧
          (¬ r137 = r139 → isB 0 ∧ Q 0 s140)))) ∧
    ((andI (xs x3.toNat) 63) = 0 + 1 + 1 + 1 + 1 + 1 + 1 + 1 + 1 + 1 + 1 + 1 + 1 + 1 + 1 + 1 + 1 + 1 + 1 + 1 + 1 + 1 + 1 + 1 + 1 + 1 + 1 + 1 + 1 + 1 + 1 + 1 + 1 + 1 → (0 ≤ (w32 (x3 + 1)) ∧ (w32 (x3 + 1)) < (N : Int)) ∧ (0 ≤ (w32 (x3 + 2)) ∧ (w32 (x3 + 2)) < (N : Int)) ∧ (0 ≤ (w32 (x3 + 3)) ∧ (w32 (x3 + 3)) < (N : Int)) ∧ call m_X_hear [.inr (.inr 0), .inl (xs (w32 (x3 + 1)).toNat), .inl (xs (w32 (x3 + 2)).toNat), .inl (xs (w32 (x3 + 3)).toNat)] σ (fun (r141 : Int) (s142 : Mem) =>
      (0 ≤ (w32 (x3 + 1)) ∧ (w32 (x3 + 1)) < (N : Int)) ∧ (0 ≤ (w32 (x3 + 2)) ∧ (w32 (x3 + 2)) < (N : Int)) ∧ (0 ≤ (w32 (x3 + 3)) ∧ (w32 (x3 + 3)) < (N : Int)) ∧ call m_M_hear [.inr (.inr 49), .inl (xs (w32 (x3 + 1)).toNat), .inl (xs (w32 (x3 + 2)).toNat), .inl (xs (w32 (x3 + 3)).toNat)] s142 (fun (r143 : Int) (s144 : Mem) =>
        (r141 = r143 →
            cut 18 [some (.inr (.inr 1000)), some (.inr (.inr 0)), some (.inr (.inr 49)), some (.inl (w32 (x3 + 6)))] [] s144) ∧
          (¬ r141 = r143 → isB 0 ∧ Q 0 s144)))) ∧
    ((andI (xs x3.toNat) 63) = 0 + 1 + 1 + 1 + 1 + 1 + 1 + 1 + 1 + 1 + 1 + 1 + 1 + 1 + 1 + 1 + 1 + 1 + 1 + 1 + 1 + 1 + 1 + 1 + 1 + 1 + 1 + 1 + 1 + 1 + 1 + 1 + 1 + 1 + 1 → (0 ≤ (w32 (x3 + 1)) ∧ (w32 (x3 + 1)) < (N : Int)) ∧ (0 ≤ (w32 (x3 + 2)) ∧ (w32 (x3 + 2)) < (N : Int)) ∧ (0 ≤ (w32 (x3 + 3)) ∧ (w32 (x3 + 3)) < (N : Int)) ∧ ((xs (w32 (x3 + 3)).toNat) = 0 →
        (0 ≤ (w32 (x3 + 4)) ∧ (w32 (x3 + 4)) < (N : Int)) ∧ call m_X_knows [.inr (.inr 0), .inl (xs (w32 (x3 + 1)).toNat), .inl (xs (w32 (x3 + 2)).toNat), .inl 0, .inl (xs (w32 (x3 + 4)).toNat)] σ (fun (r145 : Int) (s146 : Mem) =>
        (0 ≤ (w32 (x3 + 1)) ∧ (w32 (x3 + 1)) < (N : Int)) ∧ (0 ≤ (w32 (x3 + 2)) ∧ (w32 (x3 + 2)) < (N : Int)) ∧ (0 ≤ (w32 (x3 + 3)) ∧ (w32 (x3 + 3)) < (N : Int)) ∧ ((xs (w32 (x3 + 3)).toNat) = 0 →
            (0 ≤ (w32 (x3 + 4)) ∧ (w32 (x3 + 4)) < (N : Int)) ∧ call m_M_knows [.inr (.inr 49), .inl (xs (w32 (x3 + 1)).toNat), .inl (xs (w32 (x3 + 2)).toNat), .inl 0, .inl (xs (w32 (x3 + 4)).toNat)] s146 (fun (r147 : Int) (s148 : Mem) =>
            (r145 = r147 →
                cut 18 [some (.inr (.inr 1000)), some (.inr (.inr 0)), some (.inr (.inr 49)), some (.inl (w32 (x3 + 6)))] [] s148) ∧
              (¬ r145 = r147 → isB 0 ∧ Q 0 s148))) ∧
          (¬ (xs (w32 (x3 + 3)).toNat) = 0 →
            (0 ≤ (w32 (x3 + 4)) ∧ (w32 (x3 + 4)) < (N : Int)) ∧ call m_M_knows [.inr (.inr 49), .inl (xs (w32 (x3 + 1)).toNat), .inl (xs (w32 (x3 + 2)).toNat), .inl 1, .inl (xs (w32 (x3 + 4)).toNat)] s146 (fun (r149 : Int) (s150 : Mem) =>
            (r145 = r149 →
                cut 18 [some (.inr (.inr 1000)), some (.inr (.inr 0)), some (.inr (.inr 49)), some (.inl (w32 (x3 + 6)))] [] s150) ∧
              (¬ r145 = r149 → isB 0 ∧ Q 0 s150))))) ∧
      (¬ (xs (w32 (x3 + 3)).toNat) = 0 →
        (0 ≤ (w32 (x3 + 4)) ∧ (w32 (x3 + 4)) < (N : Int)) ∧ call m_X_knows [.inr (.inr 0), .inl (xs (w32 (x3 + 1)).toNat), .inl (xs (w32 (x3 + 2)).toNat), .inl 1, .inl (xs (w32 (x3 + 4)).toNat)] σ (fun (r151 : Int) (s152 : Mem) =>
        (0 ≤ (w32 (x3 + 1)) ∧ (w32 (x3 + 1)) < (N : Int)) ∧ (0 ≤ (w32 (x3 + 2)) ∧ (w32 (x3 + 2)) < (N : Int)) ∧ (0 ≤ (w32 (x3 + 3)) ∧ (w32 (x3 + 3)) < (N : Int)) ∧ ((xs (w32 (x3 + 3)).toNat) = 0 →
            (0 ≤ (w32 (x3 + 4)) ∧ (w32 (x3 + 4)) < (N : Int)) ∧ call m_M_knows [.inr (.inr 49), .inl (xs (w32 (x3 + 1)).toNat), .inl (xs (w32 (x3 + 2)).toNat), .inl 0, .inl (xs (w32 (x3 + 4)).toNat)] s152 (fun (r153 : Int) (s154 : Mem) =>
            (r151 = r153 →
                cut 18 [some (.inr (.inr 1000)), some (.inr (.inr 0)), some (.inr (.inr 49)), some (.inl (w32 (x3 + 6)))] [] s154) ∧
              (¬ r151 = r153 → isB 0 ∧ Q 0 s154))) ∧
          (¬ (xs (w32 (x3 + 3)).toNat) = 0 →
            (0 ≤ (w32 (x3 + 4)) ∧ (w32 (x3 + 4)) < (N : Int)) ∧ call m_M_knows [.inr (.inr 49), .inl (xs (w32 (x3 + 1)).toNat), .inl (xs (w32 (x3 + 2)).toNat), .inl 1, .inl (xs (w32 (x3 + 4)).toNat)] s152 (fun (r155 : Int) (s156 : Mem) =>
            (r151 = r155 →
                cut 18 [some (.inr (.inr 1000)), some (.inr (.inr 0)), some (.inr (.inr 49)), some (.inl (w32 (x3 + 6)))] [] s156) ∧
              (¬ r151 = r155 → isB 0 ∧ Q 0 s156)))))) ∧
    ((andI (xs x3.toNat) 63) = 0 + 1 + 1 + 1 + 1 + 1 + 1 + 1 + 1 + 1 + 1 + 1 + 1 + 1 + 1 + 1 + 1 + 1 + 1 + 1 + 1 + 1 + 1 + 1 + 1 + 1 + 1 + 1 + 1 + 1 + 1 + 1 + 1 + 1 + 1 + 1 → (0 ≤ (w32 (x3 + 1)) ∧ (w32 (x3 + 1)) < (N : Int)) ∧ (0 ≤ (w32 (x3 + 2)) ∧ (w32 (x3 + 2)) < (N : Int)) ∧ (0 ≤ (w32 (x3 + 3)) ∧ (w32 (x3 + 3)) < (N : Int)) ∧ call m_X_rests [.inr (.inr 0), .inl (xs (w32 (x3 + 1)).toNat), .inl (xs (w32 (x3 + 2)).toNat), .inl (xs (w32 (x3 + 3)).toNat)] σ (fun (r157 : Int) (s158 : Mem) =>
      (0 ≤ (w32 (x3 + 1)) ∧ (w32 (x3 + 1)) < (N : Int)) ∧ (0 ≤ (w32 (x3 + 2)) ∧ (w32 (x3 + 2)) < (N : Int)) ∧ (0 ≤ (w32 (x3 + 3)) ∧ (w32 (x3 + 3)) < (N : Int)) ∧ call m_M_rests [.inr (.inr 49), .inl (xs (w32 (x3 + 1)).toNat), .inl (xs (w32 (x3 + 2)).toNat), .inl (xs (w32 (x3 + 3)).toNat)] s158 (fun (r159 : Int) (s160 : Mem) =>
        (r157 = r159 →
            cut 18 [some (.inr (.inr 1000)), some (.inr (.inr 0)), some (.inr (.inr 49)), some (.inl (w32 (x3 + 6)))] [] s160) ∧
          (¬ r157 = r159 → isB 0 ∧ Q 0 s160)))) ∧
    ((andI (xs x3.toNat) 63) = 0 + 1 + 1 + 1 + 1 + 1 + 1 + 1 + 1 + 1 + 1 + 1 + 1 + 1 + 1 + 1 + 1 + 1 + 1 + 1 + 1 + 1 + 1 + 1 + 1 + 1 + 1 + 1 + 1 + 1 + 1 + 1 + 1 + 1 + 1 + 1 + 1 → (0 ≤ (w32 (x3 + 1)) ∧ (w32 (x3 + 1)) < (N : Int)) ∧ call m_X_shown [.inr (.inr 0), .inl (xs (w32 (x3 + 1)).toNat)] σ (fun (r161 : Int) (s162 : Mem) =>
      (0 ≤ (w32 (x3 + 1)) ∧ (w32 (x3 + 1)) < (N : Int)) ∧ call m_M_shown [.inr (.inr 49), .inl (xs (w32 (x3 + 1)).toNat)] s162 (fun (r163 : Int) (s164 : Mem) =>
        (r161 = r163 →
            cut 18 [some (.inr (.inr 1000)), some (.inr (.inr 0)), some (.inr (.inr 49)), some (.inl (w32 (x3 + 6)))] [] s164) ∧
          (¬ r161 = r163 → isB 0 ∧ Q 0 s164)))) ∧
    ((andI (xs x3.toNat) 63) = 0 + 1 + 1 + 1 + 1 + 1 + 1 + 1 + 1 + 1 + 1 + 1 + 1 + 1 + 1 + 1 + 1 + 1 + 1 + 1 + 1 + 1 + 1 + 1 + 1 + 1 + 1 + 1 + 1 + 1 + 1 + 1 + 1 + 1 + 1 + 1 + 1 + 1 → (0 ≤ (w32 (x3 + 1)) ∧ (w32 (x3 + 1)) < (N : Int)) ∧ (0 ≤ (w32 (x3 + 2)) ∧ (w32 (x3 + 2)) < (N : Int)) ∧ call m_X_law [.inr (.inr 0), .inl (xs (w32 (x3 + 1)).toNat), .inl (xs (w32 (x3 + 2)).toNat)] σ (fun (r165 : Int) (s166 : Mem) =>
      (0 ≤ (w32 (x3 + 1)) ∧ (w32 (x3 + 1)) < (N : Int)) ∧ (0 ≤ (w32 (x3 + 2)) ∧ (w32 (x3 + 2)) < (N : Int)) ∧ call m_M_law [.inr (.inr 49), .inl (xs (w32 (x3 + 1)).toNat), .inl (xs (w32 (x3 + 2)).toNat)] s166 (fun (r167 : Int) (s168 : Mem) =>
        (r165 = r167 →
            cut 18 [some (.inr (.inr 1000)), some (.inr (.inr 0)), some (.inr (.inr 49)), some (.inl (w32 (x3 + 6)))] [] s168) ∧
          (¬ r165 = r167 → isB 0 ∧ Q 0 s168)))) ∧
    ((andI (xs x3.toNat) 63) = 0 + 1 + 1 + 1 + 1 + 1 + 1 + 1 + 1 + 1 + 1 + 1 + 1 + 1 + 1 + 1 + 1 + 1 + 1 + 1 + 1 + 1 + 1 + 1 + 1 + 1 + 1 + 1 + 1 + 1 + 1 + 1 + 1 + 1 + 1 + 1 + 1 + 1 + 1 → (0 ≤ (w32 (x3 + 1)) ∧ (w32 (x3 + 1)) < (N : Int)) ∧ (0 ≤ (w32 (x3 + 2)) ∧ (w32 (x3 + 2)) < (N : Int)) ∧ (0 ≤ (w32 (x3 + 3)) ∧ (w32 (x3 + 3)) < (N : Int)) ∧ (0 ≤ (w32 (x3 + 4)) ∧ (w32 (x3 + 4)) < (N : Int)) ∧ call m_X_time [.inr (.inr 0), .inl (xs (w32 (x3 + 1)).toNat), .inl (xs (w32 (x3 + 2)).toNat), .inl (xs (w32 (x3 + 3)).toNat), .inl (xs (w32 (x3 + 4)).toNat)] σ (fun (r169 : Int) (s170 : Mem) =>
      (0 ≤ (w32 (x3 + 1)) ∧ (w32 (x3 + 1)) < (N : Int)) ∧ (0 ≤ (w32 (x3 + 2)) ∧ (w32 (x3 + 2)) < (N : Int)) ∧ (0 ≤ (w32 (x3 + 3)) ∧ (w32 (x3 + 3)) < (N : Int)) ∧ (0 ≤ (w32 (x3 + 4)) ∧ (w32 (x3 + 4)) < (N : Int)) ∧ call m_M_time [.inr (.inr 49), .inl (xs (w32 (x3 + 1)).toNat), .inl (xs (w32 (x3 + 2)).toNat), .inl (xs (w32 (x3 + 3)).toNat), .inl (xs (w32 (x3 + 4)).toNat)] s170 (fun (r171 : Int) (s172 : Mem) =>
        (r169 = r171 →
            cut 18 [some (.inr (.inr 1000)), some (.inr (.inr 0)), some (.inr (.inr 49)), some (.inl (w32 (x3 + 6)))] [] s172) ∧
          (¬ r169 = r171 → isB 0 ∧ Q 0 s172)))) ∧
    ((andI (xs x3.toNat) 63) = 0 + 1 + 1 + 1 + 1 + 1 + 1 + 1 + 1 + 1 + 1 + 1 + 1 + 1 + 1 + 1 + 1 + 1 + 1 + 1 + 1 + 1 + 1 + 1 + 1 + 1 + 1 + 1 + 1 + 1 + 1 + 1 + 1 + 1 + 1 + 1 + 1 + 1 + 1 + 1 → call m_X_undo [.inr (.inr 0)] σ (fun (r173 : Int) (s174 : Mem) =>
      call m_M_undo [.inr (.inr 49)] s174 (fun (r175 : Int) (s176 : Mem) =>
        (r173 = r175 →
            cut 18 [some (.inr (.inr 1000)), some (.inr (.inr 0)), some (.inr (.inr 49)), some (.inl (w32 (x3 + 6)))] [] s176) ∧
          (¬ r173 = r175 → isB 0 ∧ Q 0 s176)))) ∧
    ((andI (xs x3.toNat) 63) = 0 + 1 + 1 + 1 + 1 + 1 + 1 + 1 + 1 + 1 + 1 + 1 + 1 + 1 + 1 + 1 + 1 + 1 + 1 + 1 + 1 + 1 + 1 + 1 + 1 + 1 + 1 + 1 + 1 + 1 + 1 + 1 + 1 + 1 + 1 + 1 + 1 + 1 + 1 + 1 + 1 → call m_X_image [.inr (.inr 0)] σ (fun (r177 : Int) (s178 : Mem) =>
      call m_M_image [.inr (.inr 49)] s178 (fun (r179 : Int) (s180 : Mem) =>
        (r177 = r179 →
            cut 18 [some (.inr (.inr 1000)), some (.inr (.inr 0)), some (.inr (.inr 49)), some (.inl (w32 (x3 + 6)))] [] s180) ∧
          (¬ r177 = r179 → isB 0 ∧ Q 0 s180)))) ∧
    ((andI (xs x3.toNat) 63) = 0 + 1 + 1 + 1 + 1 + 1 + 1 + 1 + 1 + 1 + 1 + 1 + 1 + 1 + 1 + 1 + 1 + 1 + 1 + 1 + 1 + 1 + 1 + 1 + 1 + 1 + 1 + 1 + 1 + 1 + 1 + 1 + 1 + 1 + 1 + 1 + 1 + 1 + 1 + 1 + 1 + 1 → call m_X_on [.inr (.inr 0)] σ (fun (r181 : Int) (s182 : Mem) =>
      call m_M_on [.inr (.inr 49)] s182 (fun (r183 : Int) (s184 : Mem) =>
        (r181 = r183 →
            cut 18 [some (.inr (.inr 1000)), some (.inr (.inr 0)), some (.inr (.inr 49)), some (.inl (w32 (x3 + 6)))] [] s184) ∧
          (¬ r181 = r183 → isB 0 ∧ Q 0 s184)))) ∧
    ((andI (xs x3.toNat) 63) = 0 + 1 + 1 + 1 + 1 + 1 + 1 + 1 + 1 + 1 + 1 + 1 + 1 + 1 + 1 + 1 + 1 + 1 + 1 + 1 + 1 + 1 + 1 + 1 + 1 + 1 + 1 + 1 + 1 + 1 + 1 + 1 + 1 + 1 + 1 + 1 + 1 + 1 + 1 + 1 + 1 + 1 + 1 → (0 ≤ (w32 (x3 + 1)) ∧ (w32 (x3 + 1)) < (N : Int)) ∧ call m_X_count [.inr (.inr 0), .inl (xs (w32 (x3 + 1)).toNat)] σ (fun (r185 : Int) (s186 : Mem) =>
      (0 ≤ (w32 (x3 + 1)) ∧ (w32 (x3 + 1)) < (N : Int)) ∧ call m_M_count [.inr (.inr 49), .inl (xs (w32 (x3 + 1)).toNat)] s186 (fun (r187 : Int) (s188 : Mem) =>
        (r185 = r187 →
            cut 18 [some (.inr (.inr 1000)), some (.inr (.inr 0)), some (.inr (.inr 49)), some (.inl (w32 (x3 + 6)))] [] s188) ∧
          (¬ r185 = r187 → isB 0 ∧ Q 0 s188)))) ∧ True)) : seg (some (N, xs)) call c_law true Q cut 2000 true (toPc 18 c_law) [some (.inr (.inr 1000)), some (.inr (.inr 0)), some (.inr (.inr 49)), some (.inl x3)] [] σ := h
def e_law_18 {N : Nat} {xs : Nat → Int} {d : Nat} {Q : Int → Mem → Prop} {x3 : Int} {σ : Mem} := fun h => (XX_intro (g_law_18 (N := N) (xs := xs) (call := wp d) (cut := XX (some (N, xs)) (wp d) c_law true Q) (Q := Q) (x3 := x3) (σ := σ) h) : K_law_18 N xs d Q x3 σ)
