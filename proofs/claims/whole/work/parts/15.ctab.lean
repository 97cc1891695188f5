-- the constructors: tables, printed by wip/whole/ctab.py
def FC2 : List (Nat × (Nat × Nat × Nat × Nat)) := [(119, (6, 9, 6, 0)), (8, (6, 15, 6, 6)), (1, (6, 18, 6, 7)), (1, (6, 21, 6, 8)), (40, (4, 9, 4, 4)), (1, (4, 15, 4, 5)), (7, (4, 19, 4, 7)), (5, (4, 22, 4, 8)), (5, (4, 25, 4, 9)), (5, (4, 28, 4, 11)), (3, (4, 31, 4, 12)), (4, (4, 34, 4, 14)), (2, (4, 37, 4, 15)), (5, (4, 40, 4, 17)), (1, (4, 43, 4, 18)), (49, (3, 9, 3, 1)), (0, (3, 15, 3, 2)), (0, (3, 18, 3, 3)), (15, (0, 22, 0, 0)), (0, (0, 9, 0, 1)), (0, (0, 15, 0, 2)), (0, (0, 19, 0, 3)), (18, (1, 27, 1, 0)), (0, (1, 31, 1, 1)), (0, (1, 11, 1, 2)), (0, (1, 15, 1, 3)), (1, (1, 18, 1, 5)), (1, (1, 21, 1, 6)), (1, (1, 24, 1, 7)), (44, (2, 15, 2, 0)), (0, (2, 19, 2, 1)), (0, (2, 11, 2, 2)), (21, (5, 9, 5, 0)), (0, (5, 15, 5, 1)), (5, (7, 12, 7, 0)), (0, (7, 16, 7, 1)), (1, (7, 23, 7, 3)), (0, (7, 27, 7, 4)), (0, (7, 33, 7, 5)), (0, (7, 42, 7, 6)), (0, (7, 51, 7, 7)), (0, (7, 58, 7, 8)), (0, (7, 65, 7, 9)), (0, (7, 69, 7, 10)), (664, (8, 7, 8, 2)), (0, (8, 13, 8, 3)), (0, (8, 16, 8, 4)), (2, (8, 19, 8, 7)), (0, (8, 22, 8, 8)), (1, (8, 25, 8, 10)), (0, (8, 28, 8, 11)), (1, (8, 31, 8, 13)), (0, (8, 34, 8, 14)), (0, (8, 37, 8, 15)), (1, (8, 40, 8, 17)), (2, (8, 43, 8, 20)), (0, (8, 46, 8, 21)), (0, (8, 49, 8, 22)), (0, (8, 52, 8, 23)), (5, (8, 55, 8, 29)), (0, (8, 58, 8, 30)), (0, (8, 61, 8, 31)), (0, (8, 65, 8, 32)), (0, (8, 68, 8, 33)), (0, (8, 71, 8, 34)), (1, (8, 74, 8, 36)), (0, (8, 77, 8, 37)), (1, (8, 80, 8, 39)), (0, (8, 83, 8, 40)), (0, (8, 86, 8, 41)), (7, (8, 89, 8, 49)), (2, (8, 92, 8, 52)), (0, (8, 95, 8, 53)), (0, (8, 98, 8, 54)), (1, (8, 101, 8, 56))]
def CKt : List (Nat × (Nat × Nat × Nat)) := [(105, (10, 7, 7)), (7, (7, 9, 6)), (40, (7, 20, 4)), (108, (7, 30, 3)), (19, (7, 37, 0)), (21, (7, 46, 1)), (53, (7, 55, 2)), (23, (7, 62, 5)), (679, (10, 10, 8))]
def OBt : List (Nat × (Nat × Nat)) := [(110, (7, 3)), (7, (6, 3)), (40, (4, 3)), (108, (3, 3)), (19, (0, 3)), (21, (1, 3)), (53, (2, 3)), (23, (5, 3)), (679, (8, 1))]
def MCt : List (Nat × (Nat × Nat × Nat)) := [(107, (10, 9, 7)), (177, (7, 39, 0)), (21, (7, 48, 1)), (53, (7, 57, 2)), (23, (7, 64, 5)), (679, (10, 12, 8))]
def NCt : List (Nat × (Nat × Nat × Nat)) := [(115, (7, 11, 6)), (40, (7, 22, 4)), (108, (7, 32, 3))]
def ITt : List (Nat × (Nat)) := [(106, 7), (7, 6), (40, 4), (108, 3), (19, 0), (21, 1), (53, 2), (23, 5), (679, 8)]
def ICt : List (Nat × (Nat)) := [(108, 7), (7, 6), (40, 4), (108, 3), (19, 0), (21, 1), (53, 2), (23, 5), (679, 8)]
def ctm : List (MethodName × ByteArray × Nat × Nat × Nat) := [(yX0_init, cX0_init, 2, 3, 22), (yX1_init, cX1_init, 3, 5, 170), (yX2_init, cX2_init, 3, 1, 49), (yX3_init, cX3_init, 1, 3, 90), (yX4_init, cX4_init, 1, 11, 412), (yX5_init, cX5_init, 3, 0, 0), (yX6_init, cX6_init, 1, 4, 142), (yX7_init, cX7_init, 1, 48, 1404), (yX8_init, cX8_init, 1, 31, 1935)]
def ctOf (i : Nat) : MethodName × ByteArray × Nat × Nat × Nat := lnth (⟨"", "", ""⟩, ⟨#[]⟩, 0, 0, 0) ctm i
def ctY (i : Nat) : MethodName := (ctOf i).1
def ctB (i : Nat) : ByteArray := (ctOf i).2.1
def ctL (i : Nat) : Nat := (ctOf i).2.2.1
def ctC (i : Nat) : Nat := (ctOf i).2.2.2.1
def ctS (i : Nat) : Nat := (ctOf i).2.2.2.2
def ckw (q : Nat × Nat × Nat) : Cond := .classLink (clsN q.1) q.2.1 (clsN q.2.2)
def obw (q : Nat × Nat) : Cond := .methodLink (clsN q.1) q.2 objectInit
def mcw (q : Nat × Nat × Nat) : Cond := .methodLink (clsN q.1) q.2.1 (ctY q.2.2)
def ncw (q : Nat × Nat × Nat) : Cond := .methodLinkNest (clsN q.1) q.2.1 (ctY q.2.2) "ShowRoom"
def nFl (i : Nat) : Nat := match vwCl[i]? with
  | some (_, _, N) => N
  | none => 0
def itw (i : Nat) : Cond := .instantiable (clsN i) (nFl i)
def icw (i : Nat) : Cond := .instanceMethod (ctY i)
def ctw (i : Nat) : Cond := .code (ctY i) (ctB i) (ctL i) none
set_option maxRecDepth 100000 in
theorem FC2_ok : pkW lw_tbl (FC2.map (fun q => (q.1, flw q.2))) = true := by decide +kernel
set_option maxRecDepth 100000 in
theorem FC2_g : FC2.all (fun q => goodWord (flw q.2)) = true := by decide +kernel
set_option maxRecDepth 100000 in
theorem CKt_ok : pkW lw_tbl (CKt.map (fun q => (q.1, ckw q.2))) = true := by decide +kernel
set_option maxRecDepth 100000 in
theorem CKt_g : CKt.all (fun q => goodWord (ckw q.2)) = true := by decide +kernel
set_option maxRecDepth 100000 in
theorem OBt_ok : pkW lw_tbl (OBt.map (fun q => (q.1, obw q.2))) = true := by decide +kernel
set_option maxRecDepth 100000 in
theorem OBt_g : OBt.all (fun q => goodWord (obw q.2)) = true := by decide +kernel
set_option maxRecDepth 100000 in
theorem MCt_ok : pkW lw_tbl (MCt.map (fun q => (q.1, mcw q.2))) = true := by decide +kernel
set_option maxRecDepth 100000 in
theorem MCt_g : MCt.all (fun q => goodWord (mcw q.2)) = true := by decide +kernel
set_option maxRecDepth 100000 in
theorem ITt_ok : pkW lw_tbl (ITt.map (fun q => (q.1, itw q.2))) = true := by decide +kernel
set_option maxRecDepth 100000 in
theorem ITt_g : ITt.all (fun q => goodWord (itw q.2)) = true := by decide +kernel
set_option maxRecDepth 100000 in
theorem ICt_ok : pkW lw_tbl (ICt.map (fun q => (q.1, icw q.2))) = true := by decide +kernel
set_option maxRecDepth 100000 in
theorem ICt_g : ICt.all (fun q => goodWord (icw q.2)) = true := by decide +kernel
set_option maxRecDepth 100000 in
theorem NCt_ok : pkW lw_tbl (NCt.map (fun q => (q.1, ncw q.2))) = true := by decide +kernel
def AR0 : List (Nat × Cond) := [(111, .instanceMethod objectInit), (41, .arrayClass .int), (108, .arrayClass .long)]
set_option maxRecDepth 100000 in
theorem AR0_ok : pkW lw_tbl AR0 = true := by decide +kernel
set_option maxRecDepth 20000 in
theorem ob_code : Cond.code objectInit ⟨#[0xb1]⟩ 1 none ∈ gwl := List.mem_filter.mpr ⟨cdL_in (List.mem_of_getElem? (i := 1) rfl), rfl⟩
set_option maxRecDepth 20000 in
theorem ctw_in {i : Nat} (h : i < 9) : ctw i ∈ gwl := by
  refine List.mem_filter.mpr ⟨cdL_in ?_, rfl⟩
  match i, h with
  | 0, _ => exact List.mem_of_getElem? (i := 5) rfl
  | 1, _ => exact List.mem_of_getElem? (i := 6) rfl
  | 2, _ => exact List.mem_of_getElem? (i := 7) rfl
  | 3, _ => exact List.mem_of_getElem? (i := 4) rfl
  | 4, _ => exact List.mem_of_getElem? (i := 3) rfl
  | 5, _ => exact List.mem_of_getElem? (i := 8) rfl
  | 6, _ => exact List.mem_of_getElem? (i := 2) rfl
  | 7, _ => exact List.mem_of_getElem? (i := 0) rfl
  | 8, _ => exact List.mem_of_getElem? (i := 159) rfl
  | n + 9, h => exact absurd h (by omega)
def cc_0 : List En := [
  (0, none, .aload_n 0, 1, 0, 0, 0, 0, []),
  (1, none, .invokespecial 3, 3, 998, 0, 0, 0, []),
  (4, none, .aload_n 0, 1, 0, 0, 0, 0, []),
  (5, none, .bipush 16, 2, 0, 0, 0, 0, []),
  (7, none, .newarray .long, 2, 0, 0, 0, 0, []),
  (9, none, .putfield 9, 3, 1, 0, 0, 0, []),
  (12, none, .aload_n 0, 1, 0, 0, 0, 0, []),
  (13, none, .iconst 3, 1, 0, 0, 0, 0, []),
  (14, none, .newarray .int, 2, 0, 0, 0, 0, []),
  (16, none, .putfield 15, 3, 2, 0, 0, 0, []),
  (19, none, .aload_n 0, 1, 0, 0, 0, 0, []),
  (20, none, .iconst 3, 1, 0, 0, 0, 0, []),
  (21, none, .newarray .int, 2, 0, 0, 0, 0, []),
  (23, none, .putfield 19, 3, 3, 0, 0, 0, []),
  (26, none, .aload_n 0, 1, 0, 0, 0, 0, []),
  (27, none, .aload_n 1, 1, 0, 0, 0, 0, []),
  (28, none, .putfield 22, 3, 0, 0, 0, 0, []),
  (31, none, .return_, 1, 0, 0, 0, 0, [])]
def cc_1 : List En := [
  (0, none, .aload_n 0, 1, 0, 0, 0, 0, []),
  (1, none, .invokespecial 3, 3, 998, 0, 0, 0, []),
  (4, none, .aload_n 0, 1, 0, 0, 0, 0, []),
  (5, none, .bipush 34, 2, 0, 0, 0, 0, []),
  (7, none, .newarray .long, 2, 0, 0, 0, 0, []),
  (9, none, .putfield 11, 3, 2, 1, 0, 0, []),
  (12, none, .aload_n 0, 1, 0, 0, 0, 0, []),
  (13, none, .bipush 34, 2, 0, 0, 0, 0, []),
  (15, none, .newarray .long, 2, 0, 0, 0, 0, []),
  (17, none, .putfield 15, 3, 3, 1, 0, 0, []),
  (20, none, .aload_n 0, 1, 0, 0, 0, 0, []),
  (21, none, .bipush 34, 2, 0, 0, 0, 0, []),
  (23, none, .newarray .long, 2, 0, 0, 0, 0, []),
  (25, none, .putfield 18, 3, 5, 1, 0, 0, []),
  (28, none, .aload_n 0, 1, 0, 0, 0, 0, []),
  (29, none, .bipush 34, 2, 0, 0, 0, 0, []),
  (31, none, .newarray .long, 2, 0, 0, 0, 0, []),
  (33, none, .putfield 21, 3, 6, 1, 0, 0, []),
  (36, none, .aload_n 0, 1, 0, 0, 0, 0, []),
  (37, none, .bipush 34, 2, 0, 0, 0, 0, []),
  (39, none, .newarray .long, 2, 0, 0, 0, 0, []),
  (41, none, .putfield 24, 3, 7, 1, 0, 0, []),
  (44, none, .aload_n 0, 1, 0, 0, 0, 0, []),
  (45, none, .aload_n 1, 1, 0, 0, 0, 0, []),
  (46, none, .putfield 27, 3, 0, 1, 0, 0, []),
  (49, none, .aload_n 0, 1, 0, 0, 0, 0, []),
  (50, none, .aload_n 2, 1, 0, 0, 0, 0, []),
  (51, none, .putfield 31, 3, 1, 1, 0, 0, []),
  (54, none, .return_, 1, 0, 0, 0, 0, [])]
def cc_2 : List En := [
  (0, none, .aload_n 0, 1, 0, 0, 0, 0, []),
  (1, none, .invokespecial 3, 3, 998, 0, 0, 0, []),
  (4, none, .aload_n 0, 1, 0, 0, 0, 0, []),
  (5, none, .bipush 49, 2, 0, 0, 0, 0, []),
  (7, none, .newarray .long, 2, 0, 0, 0, 0, []),
  (9, none, .putfield 11, 3, 2, 2, 0, 0, []),
  (12, none, .aload_n 0, 1, 0, 0, 0, 0, []),
  (13, none, .aload_n 1, 1, 0, 0, 0, 0, []),
  (14, none, .putfield 15, 3, 0, 2, 0, 0, []),
  (17, none, .aload_n 0, 1, 0, 0, 0, 0, []),
  (18, none, .aload_n 2, 1, 0, 0, 0, 0, []),
  (19, none, .putfield 19, 3, 1, 2, 0, 0, []),
  (22, none, .return_, 1, 0, 0, 0, 0, [])]
def cc_3 : List En := [
  (0, none, .aload_n 0, 1, 0, 0, 0, 0, []),
  (1, none, .invokespecial 3, 3, 998, 0, 0, 0, []),
  (4, none, .aload_n 0, 1, 0, 0, 0, 0, []),
  (5, none, .bipush 30, 2, 0, 0, 0, 0, []),
  (7, none, .newarray .int, 2, 0, 0, 0, 0, []),
  (9, none, .putfield 9, 3, 1, 3, 0, 0, []),
  (12, none, .aload_n 0, 1, 0, 0, 0, 0, []),
  (13, none, .bipush 30, 2, 0, 0, 0, 0, []),
  (15, none, .newarray .int, 2, 0, 0, 0, 0, []),
  (17, none, .putfield 15, 3, 2, 3, 0, 0, []),
  (20, none, .aload_n 0, 1, 0, 0, 0, 0, []),
  (21, none, .bipush 30, 2, 0, 0, 0, 0, []),
  (23, none, .newarray .int, 2, 0, 0, 0, 0, []),
  (25, none, .putfield 18, 3, 3, 3, 0, 0, []),
  (28, none, .return_, 1, 0, 0, 0, 0, [])]
def cc_4 : List En := [
  (0, none, .aload_n 0, 1, 0, 0, 0, 0, []),
  (1, none, .invokespecial 3, 3, 998, 0, 0, 0, []),
  (4, none, .aload_n 0, 1, 0, 0, 0, 0, []),
  (5, none, .iconst 4, 1, 0, 0, 0, 0, []),
  (6, none, .newarray .int, 2, 0, 0, 0, 0, []),
  (8, none, .putfield 9, 3, 4, 4, 0, 0, []),
  (11, none, .aload_n 0, 1, 0, 0, 0, 0, []),
  (12, none, .iconst 4, 1, 0, 0, 0, 0, []),
  (13, none, .newarray .long, 2, 0, 0, 0, 0, []),
  (15, none, .putfield 15, 3, 5, 4, 0, 0, []),
  (18, none, .aload_n 0, 1, 0, 0, 0, 0, []),
  (19, none, .bipush 24, 2, 0, 0, 0, 0, []),
  (21, none, .newarray .int, 2, 0, 0, 0, 0, []),
  (23, none, .putfield 19, 3, 7, 4, 0, 0, []),
  (26, none, .aload_n 0, 1, 0, 0, 0, 0, []),
  (27, none, .bipush 24, 2, 0, 0, 0, 0, []),
  (29, none, .newarray .int, 2, 0, 0, 0, 0, []),
  (31, none, .putfield 22, 3, 8, 4, 0, 0, []),
  (34, none, .aload_n 0, 1, 0, 0, 0, 0, []),
  (35, none, .bipush 24, 2, 0, 0, 0, 0, []),
  (37, none, .newarray .int, 2, 0, 0, 0, 0, []),
  (39, none, .putfield 25, 3, 9, 4, 0, 0, []),
  (42, none, .aload_n 0, 1, 0, 0, 0, 0, []),
  (43, none, .bipush 12, 2, 0, 0, 0, 0, []),
  (45, none, .newarray .int, 2, 0, 0, 0, 0, []),
  (47, none, .putfield 28, 3, 11, 4, 0, 0, []),
  (50, none, .aload_n 0, 1, 0, 0, 0, 0, []),
  (51, none, .sipush 288, 3, 0, 0, 0, 0, []),
  (54, none, .newarray .int, 2, 0, 0, 0, 0, []),
  (56, none, .putfield 31, 3, 12, 4, 0, 0, []),
  (59, none, .aload_n 0, 1, 0, 0, 0, 0, []),
  (60, none, .bipush 6, 2, 0, 0, 0, 0, []),
  (62, none, .newarray .int, 2, 0, 0, 0, 0, []),
  (64, none, .putfield 34, 3, 14, 4, 0, 0, []),
  (67, none, .aload_n 0, 1, 0, 0, 0, 0, []),
  (68, none, .bipush 6, 2, 0, 0, 0, 0, []),
  (70, none, .newarray .int, 2, 0, 0, 0, 0, []),
  (72, none, .putfield 37, 3, 15, 4, 0, 0, []),
  (75, none, .aload_n 0, 1, 0, 0, 0, 0, []),
  (76, none, .bipush 16, 2, 0, 0, 0, 0, []),
  (78, none, .newarray .int, 2, 0, 0, 0, 0, []),
  (80, none, .putfield 40, 3, 17, 4, 0, 0, []),
  (83, none, .aload_n 0, 1, 0, 0, 0, 0, []),
  (84, none, .iconst 4, 1, 0, 0, 0, 0, []),
  (85, none, .newarray .int, 2, 0, 0, 0, 0, []),
  (87, none, .putfield 43, 3, 18, 4, 0, 0, []),
  (90, none, .return_, 1, 0, 0, 0, 0, [])]
def cc_5 : List En := [
  (0, none, .aload_n 0, 1, 0, 0, 0, 0, []),
  (1, none, .invokespecial 3, 3, 998, 0, 0, 0, []),
  (4, none, .aload_n 0, 1, 0, 0, 0, 0, []),
  (5, none, .aload_n 1, 1, 0, 0, 0, 0, []),
  (6, none, .putfield 9, 3, 0, 5, 0, 0, []),
  (9, none, .aload_n 0, 1, 0, 0, 0, 0, []),
  (10, none, .aload_n 2, 1, 0, 0, 0, 0, []),
  (11, none, .putfield 15, 3, 1, 5, 0, 0, []),
  (14, none, .return_, 1, 0, 0, 0, 0, [])]
def cc_6 : List En := [
  (0, none, .aload_n 0, 1, 0, 0, 0, 0, []),
  (1, none, .invokespecial 3, 3, 998, 0, 0, 0, []),
  (4, none, .aload_n 0, 1, 0, 0, 0, 0, []),
  (5, none, .bipush 90, 2, 0, 0, 0, 0, []),
  (7, none, .newarray .int, 2, 0, 0, 0, 0, []),
  (9, none, .putfield 9, 3, 0, 6, 0, 0, []),
  (12, none, .aload_n 0, 1, 0, 0, 0, 0, []),
  (13, none, .iconst 4, 1, 0, 0, 0, 0, []),
  (14, none, .newarray .int, 2, 0, 0, 0, 0, []),
  (16, none, .putfield 15, 3, 6, 6, 0, 0, []),
  (19, none, .aload_n 0, 1, 0, 0, 0, 0, []),
  (20, none, .bipush 24, 2, 0, 0, 0, 0, []),
  (22, none, .newarray .int, 2, 0, 0, 0, 0, []),
  (24, none, .putfield 18, 3, 7, 6, 0, 0, []),
  (27, none, .aload_n 0, 1, 0, 0, 0, 0, []),
  (28, none, .bipush 24, 2, 0, 0, 0, 0, []),
  (30, none, .newarray .int, 2, 0, 0, 0, 0, []),
  (32, none, .putfield 21, 3, 8, 6, 0, 0, []),
  (35, none, .return_, 1, 0, 0, 0, 0, [])]
def cc_7 : List En := [
  (0, none, .aload_n 0, 1, 0, 0, 0, 0, []),
  (1, none, .invokespecial 3, 3, 998, 0, 0, 0, []),
  (4, none, .aload_n 0, 1, 0, 0, 0, 0, []),
  (5, none, .new 9, 3, 6, 0, 0, 0, []),
  (8, none, .dup, 1, 0, 0, 0, 0, []),
  (9, none, .invokespecial 11, 3, 6, 1, 0, 0, []),
  (12, none, .putfield 12, 3, 0, 7, 0, 0, []),
  (15, none, .aload_n 0, 1, 0, 0, 0, 0, []),
  (16, none, .bipush 24, 2, 0, 0, 0, 0, []),
  (18, none, .newarray .int, 2, 0, 0, 0, 0, []),
  (20, none, .putfield 16, 3, 1, 7, 0, 0, []),
  (23, none, .aload_n 0, 1, 0, 0, 0, 0, []),
  (24, none, .new 20, 3, 4, 0, 0, 0, []),
  (27, none, .dup, 1, 0, 0, 0, 0, []),
  (28, none, .invokespecial 22, 3, 4, 1, 0, 0, []),
  (31, none, .putfield 23, 3, 3, 7, 0, 0, []),
  (34, none, .aload_n 0, 1, 0, 0, 0, 0, []),
  (35, none, .new 20, 3, 4, 0, 0, 0, []),
  (38, none, .dup, 1, 0, 0, 0, 0, []),
  (39, none, .invokespecial 22, 3, 4, 1, 0, 0, []),
  (42, none, .putfield 27, 3, 4, 7, 0, 0, []),
  (45, none, .aload_n 0, 1, 0, 0, 0, 0, []),
  (46, none, .new 30, 3, 3, 0, 0, 0, []),
  (49, none, .dup, 1, 0, 0, 0, 0, []),
  (50, none, .invokespecial 32, 3, 3, 1, 0, 0, []),
  (53, none, .putfield 33, 3, 5, 7, 0, 0, []),
  (56, none, .aload_n 0, 1, 0, 0, 0, 0, []),
  (57, none, .new 37, 3, 0, 0, 0, 0, []),
  (60, none, .dup, 1, 0, 0, 0, 0, []),
  (61, none, .aload_n 0, 1, 0, 0, 0, 0, []),
  (62, none, .getfield 23, 3, 3, 7, 0, 0, []),
  (65, none, .invokespecial 39, 3, 0, 2, 0, 0, []),
  (68, none, .putfield 42, 3, 6, 7, 0, 0, []),
  (71, none, .aload_n 0, 1, 0, 0, 0, 0, []),
  (72, none, .new 46, 3, 1, 0, 0, 0, []),
  (75, none, .dup, 1, 0, 0, 0, 0, []),
  (76, none, .aload_n 0, 1, 0, 0, 0, 0, []),
  (77, none, .getfield 23, 3, 3, 7, 0, 0, []),
  (80, none, .aload_n 0, 1, 0, 0, 0, 0, []),
  (81, none, .getfield 42, 3, 6, 7, 0, 0, []),
  (84, none, .invokespecial 48, 3, 1, 3, 0, 0, []),
  (87, none, .putfield 51, 3, 7, 7, 0, 0, []),
  (90, none, .aload_n 0, 1, 0, 0, 0, 0, []),
  (91, none, .new 55, 3, 2, 0, 0, 0, []),
  (94, none, .dup, 1, 0, 0, 0, 0, []),
  (95, none, .aload_n 0, 1, 0, 0, 0, 0, []),
  (96, none, .getfield 23, 3, 3, 7, 0, 0, []),
  (99, none, .aload_n 0, 1, 0, 0, 0, 0, []),
  (100, none, .getfield 42, 3, 6, 7, 0, 0, []),
  (103, none, .invokespecial 57, 3, 2, 3, 0, 0, []),
  (106, none, .putfield 58, 3, 8, 7, 0, 0, []),
  (109, none, .aload_n 0, 1, 0, 0, 0, 0, []),
  (110, none, .new 62, 3, 5, 0, 0, 0, []),
  (113, none, .dup, 1, 0, 0, 0, 0, []),
  (114, none, .aload_n 0, 1, 0, 0, 0, 0, []),
  (115, none, .getfield 23, 3, 3, 7, 0, 0, []),
  (118, none, .aload_n 0, 1, 0, 0, 0, 0, []),
  (119, none, .getfield 42, 3, 6, 7, 0, 0, []),
  (122, none, .invokespecial 64, 3, 5, 3, 0, 0, []),
  (125, none, .putfield 65, 3, 9, 7, 0, 0, []),
  (128, none, .aload_n 0, 1, 0, 0, 0, 0, []),
  (129, none, .bipush 7, 2, 0, 0, 0, 0, []),
  (131, none, .newarray .int, 2, 0, 0, 0, 0, []),
  (133, none, .putfield 69, 3, 10, 7, 0, 0, []),
  (136, none, .return_, 1, 0, 0, 0, 0, [])]
def cc_8 : List En := [
  (0, none, .aload_n 0, 1, 0, 0, 0, 0, []),
  (1, none, .invokespecial 1, 3, 998, 0, 0, 0, []),
  (4, none, .aload_n 0, 1, 0, 0, 0, 0, []),
  (5, none, .iconst 4, 1, 0, 0, 0, 0, []),
  (6, none, .newarray .int, 2, 0, 0, 0, 0, []),
  (8, none, .putfield 7, 3, 2, 8, 0, 0, []),
  (11, none, .aload_n 0, 1, 0, 0, 0, 0, []),
  (12, none, .iconst 4, 1, 0, 0, 0, 0, []),
  (13, none, .newarray .int, 2, 0, 0, 0, 0, []),
  (15, none, .putfield 13, 3, 3, 8, 0, 0, []),
  (18, none, .aload_n 0, 1, 0, 0, 0, 0, []),
  (19, none, .bipush 72, 2, 0, 0, 0, 0, []),
  (21, none, .newarray .int, 2, 0, 0, 0, 0, []),
  (23, none, .putfield 16, 3, 4, 8, 0, 0, []),
  (26, none, .aload_n 0, 1, 0, 0, 0, 0, []),
  (27, none, .bipush 13, 2, 0, 0, 0, 0, []),
  (29, none, .newarray .int, 2, 0, 0, 0, 0, []),
  (31, none, .putfield 19, 3, 7, 8, 0, 0, []),
  (34, none, .aload_n 0, 1, 0, 0, 0, 0, []),
  (35, none, .sipush 312, 3, 0, 0, 0, 0, []),
  (38, none, .newarray .int, 2, 0, 0, 0, 0, []),
  (40, none, .putfield 22, 3, 8, 8, 0, 0, []),
  (43, none, .aload_n 0, 1, 0, 0, 0, 0, []),
  (44, none, .bipush 6, 2, 0, 0, 0, 0, []),
  (46, none, .newarray .int, 2, 0, 0, 0, 0, []),
  (48, none, .putfield 25, 3, 10, 8, 0, 0, []),
  (51, none, .aload_n 0, 1, 0, 0, 0, 0, []),
  (52, none, .bipush 6, 2, 0, 0, 0, 0, []),
  (54, none, .newarray .int, 2, 0, 0, 0, 0, []),
  (56, none, .putfield 28, 3, 11, 8, 0, 0, []),
  (59, none, .aload_n 0, 1, 0, 0, 0, 0, []),
  (60, none, .bipush 24, 2, 0, 0, 0, 0, []),
  (62, none, .newarray .int, 2, 0, 0, 0, 0, []),
  (64, none, .putfield 31, 3, 13, 8, 0, 0, []),
  (67, none, .aload_n 0, 1, 0, 0, 0, 0, []),
  (68, none, .bipush 6, 2, 0, 0, 0, 0, []),
  (70, none, .newarray .int, 2, 0, 0, 0, 0, []),
  (72, none, .putfield 34, 3, 14, 8, 0, 0, []),
  (75, none, .aload_n 0, 1, 0, 0, 0, 0, []),
  (76, none, .bipush 24, 2, 0, 0, 0, 0, []),
  (78, none, .newarray .int, 2, 0, 0, 0, 0, []),
  (80, none, .putfield 37, 3, 15, 8, 0, 0, []),
  (83, none, .aload_n 0, 1, 0, 0, 0, 0, []),
  (84, none, .bipush 90, 2, 0, 0, 0, 0, []),
  (86, none, .newarray .int, 2, 0, 0, 0, 0, []),
  (88, none, .putfield 40, 3, 17, 8, 0, 0, []),
  (91, none, .aload_n 0, 1, 0, 0, 0, 0, []),
  (92, none, .bipush 30, 2, 0, 0, 0, 0, []),
  (94, none, .newarray .int, 2, 0, 0, 0, 0, []),
  (96, none, .putfield 43, 3, 20, 8, 0, 0, []),
  (99, none, .aload_n 0, 1, 0, 0, 0, 0, []),
  (100, none, .bipush 30, 2, 0, 0, 0, 0, []),
  (102, none, .newarray .int, 2, 0, 0, 0, 0, []),
  (104, none, .putfield 46, 3, 21, 8, 0, 0, []),
  (107, none, .aload_n 0, 1, 0, 0, 0, 0, []),
  (108, none, .bipush 30, 2, 0, 0, 0, 0, []),
  (110, none, .newarray .int, 2, 0, 0, 0, 0, []),
  (112, none, .putfield 49, 3, 22, 8, 0, 0, []),
  (115, none, .aload_n 0, 1, 0, 0, 0, 0, []),
  (116, none, .bipush 7, 2, 0, 0, 0, 0, []),
  (118, none, .newarray .int, 2, 0, 0, 0, 0, []),
  (120, none, .putfield 52, 3, 23, 8, 0, 0, []),
  (123, none, .aload_n 0, 1, 0, 0, 0, 0, []),
  (124, none, .iconst 4, 1, 0, 0, 0, 0, []),
  (125, none, .newarray .int, 2, 0, 0, 0, 0, []),
  (127, none, .putfield 55, 3, 29, 8, 0, 0, []),
  (130, none, .aload_n 0, 1, 0, 0, 0, 0, []),
  (131, none, .bipush 48, 2, 0, 0, 0, 0, []),
  (133, none, .newarray .int, 2, 0, 0, 0, 0, []),
  (135, none, .putfield 58, 3, 30, 8, 0, 0, []),
  (138, none, .aload_n 0, 1, 0, 0, 0, 0, []),
  (139, none, .iconst 4, 1, 0, 0, 0, 0, []),
  (140, none, .newarray .long, 2, 0, 0, 0, 0, []),
  (142, none, .putfield 61, 3, 31, 8, 0, 0, []),
  (145, none, .aload_n 0, 1, 0, 0, 0, 0, []),
  (146, none, .bipush 12, 2, 0, 0, 0, 0, []),
  (148, none, .newarray .int, 2, 0, 0, 0, 0, []),
  (150, none, .putfield 65, 3, 32, 8, 0, 0, []),
  (153, none, .aload_n 0, 1, 0, 0, 0, 0, []),
  (154, none, .bipush 12, 2, 0, 0, 0, 0, []),
  (156, none, .newarray .int, 2, 0, 0, 0, 0, []),
  (158, none, .putfield 68, 3, 33, 8, 0, 0, []),
  (161, none, .aload_n 0, 1, 0, 0, 0, 0, []),
  (162, none, .bipush 12, 2, 0, 0, 0, 0, []),
  (164, none, .newarray .int, 2, 0, 0, 0, 0, []),
  (166, none, .putfield 71, 3, 34, 8, 0, 0, []),
  (169, none, .aload_n 0, 1, 0, 0, 0, 0, []),
  (170, none, .bipush 40, 2, 0, 0, 0, 0, []),
  (172, none, .newarray .long, 2, 0, 0, 0, 0, []),
  (174, none, .putfield 74, 3, 36, 8, 0, 0, []),
  (177, none, .aload_n 0, 1, 0, 0, 0, 0, []),
  (178, none, .bipush 40, 2, 0, 0, 0, 0, []),
  (180, none, .newarray .long, 2, 0, 0, 0, 0, []),
  (182, none, .putfield 77, 3, 37, 8, 0, 0, []),
  (185, none, .aload_n 0, 1, 0, 0, 0, 0, []),
  (186, none, .bipush 40, 2, 0, 0, 0, 0, []),
  (188, none, .newarray .long, 2, 0, 0, 0, 0, []),
  (190, none, .putfield 80, 3, 39, 8, 0, 0, []),
  (193, none, .aload_n 0, 1, 0, 0, 0, 0, []),
  (194, none, .bipush 40, 2, 0, 0, 0, 0, []),
  (196, none, .newarray .long, 2, 0, 0, 0, 0, []),
  (198, none, .putfield 83, 3, 40, 8, 0, 0, []),
  (201, none, .aload_n 0, 1, 0, 0, 0, 0, []),
  (202, none, .bipush 41, 2, 0, 0, 0, 0, []),
  (204, none, .newarray .long, 2, 0, 0, 0, 0, []),
  (206, none, .putfield 86, 3, 41, 8, 0, 0, []),
  (209, none, .aload_n 0, 1, 0, 0, 0, 0, []),
  (210, none, .iconst 3, 1, 0, 0, 0, 0, []),
  (211, none, .newarray .int, 2, 0, 0, 0, 0, []),
  (213, none, .putfield 89, 3, 49, 8, 0, 0, []),
  (216, none, .aload_n 0, 1, 0, 0, 0, 0, []),
  (217, none, .bipush 49, 2, 0, 0, 0, 0, []),
  (219, none, .newarray .long, 2, 0, 0, 0, 0, []),
  (221, none, .putfield 92, 3, 52, 8, 0, 0, []),
  (224, none, .aload_n 0, 1, 0, 0, 0, 0, []),
  (225, none, .sipush 216, 3, 0, 0, 0, 0, []),
  (228, none, .newarray .long, 2, 0, 0, 0, 0, []),
  (230, none, .putfield 95, 3, 53, 8, 0, 0, []),
  (233, none, .aload_n 0, 1, 0, 0, 0, 0, []),
  (234, none, .sipush 216, 3, 0, 0, 0, 0, []),
  (237, none, .newarray .long, 2, 0, 0, 0, 0, []),
  (239, none, .putfield 98, 3, 54, 8, 0, 0, []),
  (242, none, .aload_n 0, 1, 0, 0, 0, 0, []),
  (243, none, .sipush 500, 3, 0, 0, 0, 0, []),
  (246, none, .newarray .int, 2, 0, 0, 0, 0, []),
  (248, none, .putfield 101, 3, 56, 8, 0, 0, []),
  (251, none, .return_, 1, 0, 0, 0, 0, [])]
def cc_law : List En := [
  (0, none, .new 7, 3, 7, 0, 0, 0, []),
  (3, none, .dup, 1, 0, 0, 0, 0, []),
  (4, none, .invokespecial 9, 3, 7, 1, 0, 0, []),
  (7, none, .astore_n 1, 1, 0, 0, 0, 0, []),
  (8, none, .new 10, 3, 8, 0, 0, 0, []),
  (11, none, .dup, 1, 0, 0, 0, 0, []),
  (12, none, .invokespecial 12, 3, 8, 1, 0, 0, []),
  (15, none, .astore_n 2, 1, 0, 0, 0, 0, []),
  (16, none, .iconst 0, 1, 0, 0, 0, 0, []),
  (17, none, .istore_n 3, 1, 0, 0, 0, 0, [])]

def ccOf (i : Nat) : List En := lnth [] [cc_0, cc_1, cc_2, cc_3, cc_4, cc_5, cc_6, cc_7, cc_8] i
