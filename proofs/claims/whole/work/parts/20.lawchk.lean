set_option maxRecDepth 100000 in
theorem kl_0 : ((c_law.drop 0).take 60).all (chkE 10 4 code) = true := by decide +kernel
set_option maxRecDepth 100000 in
theorem kl_1 : ((c_law.drop 60).take 60).all (chkE 10 4 code) = true := by decide +kernel
set_option maxRecDepth 100000 in
theorem kl_2 : ((c_law.drop 120).take 60).all (chkE 10 4 code) = true := by decide +kernel
set_option maxRecDepth 100000 in
theorem kl_3 : ((c_law.drop 180).take 60).all (chkE 10 4 code) = true := by decide +kernel
set_option maxRecDepth 100000 in
theorem kl_4 : ((c_law.drop 240).take 60).all (chkE 10 4 code) = true := by decide +kernel
set_option maxRecDepth 100000 in
theorem kl_5 : ((c_law.drop 300).take 60).all (chkE 10 4 code) = true := by decide +kernel
set_option maxRecDepth 100000 in
theorem kl_6 : ((c_law.drop 360).take 60).all (chkE 10 4 code) = true := by decide +kernel
set_option maxRecDepth 100000 in
theorem kl_7 : ((c_law.drop 420).take 60).all (chkE 10 4 code) = true := by decide +kernel
set_option maxRecDepth 100000 in
theorem kl_8 : ((c_law.drop 480).take 60).all (chkE 10 4 code) = true := by decide +kernel
set_option maxRecDepth 100000 in
theorem kl_9 : ((c_law.drop 540).take 60).all (chkE 10 4 code) = true := by decide +kernel
set_option maxRecDepth 100000 in
theorem kl_10 : ((c_law.drop 600).take 60).all (chkE 10 4 code) = true := by decide +kernel
set_option maxRecDepth 100000 in
theorem kl_11 : ((c_law.drop 660).take 60).all (chkE 10 4 code) = true := by decide +kernel
set_option maxRecDepth 100000 in
theorem kl_12 : ((c_law.drop 720).take 60).all (chkE 10 4 code) = true := by decide +kernel
set_option maxRecDepth 100000 in
theorem kl_13 : ((c_law.drop 780).take 60).all (chkE 10 4 code) = true := by decide +kernel
set_option maxRecDepth 100000 in
theorem kl_14 : ((c_law.drop 840).take 60).all (chkE 10 4 code) = true := by decide +kernel
set_option maxRecDepth 100000 in
theorem kl_15 : ((c_law.drop 900).take 60).all (chkE 10 4 code) = true := by decide +kernel
set_option maxRecDepth 100000 in
theorem kl_16 : ((c_law.drop 960).take 60).all (chkE 10 4 code) = true := by decide +kernel
set_option maxRecDepth 100000 in
theorem kl_17 : ((c_law.drop 1020).take 60).all (chkE 10 4 code) = true := by decide +kernel
set_option maxRecDepth 100000 in
theorem kl_18 : ((c_law.drop 1080).take 60).all (chkE 10 4 code) = true := by decide +kernel
set_option maxRecDepth 100000 in
theorem kl_19 : ((c_law.drop 1140).take 60).all (chkE 10 4 code) = true := by decide +kernel
set_option maxRecDepth 100000 in
theorem kl_seq : seqC c_law = true := by decide +kernel
theorem all_take {α : Type} {f : α → Bool} : ∀ (n : Nat) {l : List α}, (l.take n).all f = true → (l.drop n).all f = true → l.all f = true
  | n, l, h1, h2 => by
    rw [← List.take_append_drop n l, List.all_append, h1, h2]
    rfl

set_option maxRecDepth 100000 in
theorem kl_all : c_law.all (chkE 10 4 code) = true := by
  have h0 := kl_0
  have h1 := kl_1
  have h2 := kl_2
  have h3 := kl_3
  have h4 := kl_4
  have h5 := kl_5
  have h6 := kl_6
  have h7 := kl_7
  have h8 := kl_8
  have h9 := kl_9
  have h10 := kl_10
  have h11 := kl_11
  have h12 := kl_12
  have h13 := kl_13
  have h14 := kl_14
  have h15 := kl_15
  have h16 := kl_16
  have h17 := kl_17
  have h18 := kl_18
  have h19 := kl_19
  rw [List.drop_zero] at h0
  refine all_take 60 h0 ?_
  refine all_take 60 h1 ?_
  rw [List.drop_drop]
  refine all_take 60 h2 ?_
  rw [List.drop_drop]
  refine all_take 60 h3 ?_
  rw [List.drop_drop]
  refine all_take 60 h4 ?_
  rw [List.drop_drop]
  refine all_take 60 h5 ?_
  rw [List.drop_drop]
  refine all_take 60 h6 ?_
  rw [List.drop_drop]
  refine all_take 60 h7 ?_
  rw [List.drop_drop]
  refine all_take 60 h8 ?_
  rw [List.drop_drop]
  refine all_take 60 h9 ?_
  rw [List.drop_drop]
  refine all_take 60 h10 ?_
  rw [List.drop_drop]
  refine all_take 60 h11 ?_
  rw [List.drop_drop]
  refine all_take 60 h12 ?_
  rw [List.drop_drop]
  refine all_take 60 h13 ?_
  rw [List.drop_drop]
  refine all_take 60 h14 ?_
  rw [List.drop_drop]
  refine all_take 60 h15 ?_
  rw [List.drop_drop]
  refine all_take 60 h16 ?_
  rw [List.drop_drop]
  refine all_take 60 h17 ?_
  rw [List.drop_drop]
  refine all_take 60 h18 ?_
  rw [List.drop_drop]
  refine all_take 60 h19 ?_
  rw [List.drop_drop]
  show (c_law.drop 1200).all _ = true
  rfl

