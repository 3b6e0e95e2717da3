/-! Where cells, methods and links stand in the tables. -/
theorem tb_0 : ((0 : Int), ((0 : Nat), (0 : Nat))) ∈ ctab := by decide +kernel
theorem tb_10 : ((10 : Int), ((0 : Nat), (1 : Nat))) ∈ ctab := by decide +kernel
theorem tb_11 : ((11 : Int), ((1 : Nat), (10 : Nat))) ∈ ctab := by decide +kernel
theorem tb_12 : ((12 : Int), ((1 : Nat), (10 : Nat))) ∈ ctab := by decide +kernel
theorem tb_13 : ((13 : Int), ((1 : Nat), (10 : Nat))) ∈ ctab := by decide +kernel
theorem tb_14 : ((14 : Int), ((5 : Nat), (4 : Nat))) ∈ ctab := by decide +kernel
theorem tb_15 : ((15 : Int), ((1 : Nat), (6 : Nat))) ∈ ctab := by decide +kernel
theorem tb_16 : ((16 : Int), ((1 : Nat), (6 : Nat))) ∈ ctab := by decide +kernel
theorem tb_17 : ((17 : Int), ((1 : Nat), (6 : Nat))) ∈ ctab := by decide +kernel
theorem tb_18 : ((18 : Int), ((1 : Nat), (6 : Nat))) ∈ ctab := by decide +kernel
theorem tb_19 : ((19 : Int), ((1 : Nat), (4 : Nat))) ∈ ctab := by decide +kernel
theorem tb_20 : ((20 : Int), ((1 : Nat), (4 : Nat))) ∈ ctab := by decide +kernel
theorem tb_21 : ((21 : Int), ((1 : Nat), (4 : Nat))) ∈ ctab := by decide +kernel
theorem tb_22 : ((22 : Int), ((1 : Nat), (10 : Nat))) ∈ ctab := by decide +kernel
theorem tb_30 : ((30 : Int), ((0 : Nat), (1 : Nat))) ∈ ctab := by decide +kernel
theorem tb_31 : ((31 : Int), ((1 : Nat), (10 : Nat))) ∈ ctab := by decide +kernel
theorem tb_32 : ((32 : Int), ((1 : Nat), (10 : Nat))) ∈ ctab := by decide +kernel
theorem tb_33 : ((33 : Int), ((1 : Nat), (10 : Nat))) ∈ ctab := by decide +kernel
theorem tb_34 : ((34 : Int), ((5 : Nat), (4 : Nat))) ∈ ctab := by decide +kernel
theorem tb_35 : ((35 : Int), ((1 : Nat), (6 : Nat))) ∈ ctab := by decide +kernel
theorem tb_36 : ((36 : Int), ((1 : Nat), (6 : Nat))) ∈ ctab := by decide +kernel
theorem tb_37 : ((37 : Int), ((1 : Nat), (6 : Nat))) ∈ ctab := by decide +kernel
theorem tb_38 : ((38 : Int), ((1 : Nat), (6 : Nat))) ∈ ctab := by decide +kernel
theorem tb_39 : ((39 : Int), ((1 : Nat), (4 : Nat))) ∈ ctab := by decide +kernel
theorem tb_40 : ((40 : Int), ((1 : Nat), (4 : Nat))) ∈ ctab := by decide +kernel
theorem tb_41 : ((41 : Int), ((1 : Nat), (4 : Nat))) ∈ ctab := by decide +kernel
theorem tb_42 : ((42 : Int), ((1 : Nat), (10 : Nat))) ∈ ctab := by decide +kernel
theorem tb_50 : ((50 : Int), ((0 : Nat), (1 : Nat))) ∈ ctab := by decide +kernel
theorem tb_51 : ((51 : Int), ((1 : Nat), (10 : Nat))) ∈ ctab := by decide +kernel
theorem tb_52 : ((52 : Int), ((1 : Nat), (10 : Nat))) ∈ ctab := by decide +kernel
theorem tb_53 : ((53 : Int), ((1 : Nat), (10 : Nat))) ∈ ctab := by decide +kernel
theorem tb_54 : ((54 : Int), ((5 : Nat), (4 : Nat))) ∈ ctab := by decide +kernel
theorem tb_55 : ((55 : Int), ((1 : Nat), (6 : Nat))) ∈ ctab := by decide +kernel
theorem tb_56 : ((56 : Int), ((1 : Nat), (6 : Nat))) ∈ ctab := by decide +kernel
theorem tb_57 : ((57 : Int), ((1 : Nat), (6 : Nat))) ∈ ctab := by decide +kernel
theorem tb_58 : ((58 : Int), ((1 : Nat), (6 : Nat))) ∈ ctab := by decide +kernel
theorem tb_59 : ((59 : Int), ((1 : Nat), (4 : Nat))) ∈ ctab := by decide +kernel
theorem tb_60 : ((60 : Int), ((1 : Nat), (4 : Nat))) ∈ ctab := by decide +kernel
theorem tb_61 : ((61 : Int), ((1 : Nat), (4 : Nat))) ∈ ctab := by decide +kernel
theorem tb_62 : ((62 : Int), ((1 : Nat), (10 : Nat))) ∈ ctab := by decide +kernel
theorem tb_70 : ((70 : Int), ((0 : Nat), (2 : Nat))) ∈ ctab := by decide +kernel
theorem tb_71 : ((71 : Int), ((2 : Nat), (120 : Nat))) ∈ ctab := by decide +kernel
theorem tb_72 : ((72 : Int), ((0 : Nat), (3 : Nat))) ∈ ctab := by decide +kernel
theorem tb_73 : ((73 : Int), ((1 : Nat), (6 : Nat))) ∈ ctab := by decide +kernel
theorem tb_74 : ((74 : Int), ((4 : Nat), (4 : Nat))) ∈ ctab := by decide +kernel
theorem tb_75 : ((75 : Int), ((1 : Nat), (7 : Nat))) ∈ ctab := by decide +kernel
theorem tb_76 : ((76 : Int), ((0 : Nat), (4 : Nat))) ∈ ctab := by decide +kernel
theorem tb_77 : ((77 : Int), ((1 : Nat), (6 : Nat))) ∈ ctab := by decide +kernel
theorem tb_78 : ((78 : Int), ((1 : Nat), (720 : Nat))) ∈ ctab := by decide +kernel
theorem tb_79 : ((79 : Int), ((1 : Nat), (1001 : Nat))) ∈ ctab := by decide +kernel
theorem tb_80 : ((80 : Int), ((1 : Nat), (10 : Nat))) ∈ ctab := by decide +kernel
theorem tb_81 : ((81 : Int), ((1 : Nat), (10 : Nat))) ∈ ctab := by decide +kernel
theorem tb_82 : ((82 : Int), ((1 : Nat), (45 : Nat))) ∈ ctab := by decide +kernel
theorem tb_90 : ((90 : Int), ((0 : Nat), (5 : Nat))) ∈ ctab := by decide +kernel
theorem tb_91 : ((91 : Int), ((1 : Nat), (40 : Nat))) ∈ ctab := by decide +kernel
theorem tb_92 : ((92 : Int), ((0 : Nat), (5 : Nat))) ∈ ctab := by decide +kernel
theorem tb_93 : ((93 : Int), ((1 : Nat), (40 : Nat))) ∈ ctab := by decide +kernel
theorem tb_94 : ((94 : Int), ((0 : Nat), (5 : Nat))) ∈ ctab := by decide +kernel
theorem tb_95 : ((95 : Int), ((1 : Nat), (40 : Nat))) ∈ ctab := by decide +kernel
theorem tb_96 : ((96 : Int), ((0 : Nat), (5 : Nat))) ∈ ctab := by decide +kernel
theorem tb_97 : ((97 : Int), ((1 : Nat), (40 : Nat))) ∈ ctab := by decide +kernel
theorem tb_100 : ((100 : Int), ((0 : Nat), (6 : Nat))) ∈ ctab := by decide +kernel
theorem tb_101 : ((101 : Int), ((1 : Nat), (82 : Nat))) ∈ ctab := by decide +kernel
theorem tb_102 : ((102 : Int), ((1 : Nat), (82 : Nat))) ∈ ctab := by decide +kernel
theorem tb_103 : ((103 : Int), ((1 : Nat), (82 : Nat))) ∈ ctab := by decide +kernel
theorem tb_104 : ((104 : Int), ((1 : Nat), (7 : Nat))) ∈ ctab := by decide +kernel
theorem tb_105 : ((105 : Int), ((1 : Nat), (6 : Nat))) ∈ ctab := by decide +kernel
theorem tb_106 : ((106 : Int), ((3 : Nat), (1001 : Nat))) ∈ ctab := by decide +kernel
theorem tb_107 : ((107 : Int), ((1 : Nat), (10 : Nat))) ∈ ctab := by decide +kernel
theorem tb_108 : ((108 : Int), ((1 : Nat), (100 : Nat))) ∈ ctab := by decide +kernel
theorem tb_109 : ((109 : Int), ((1 : Nat), (120 : Nat))) ∈ ctab := by decide +kernel
theorem tb_110 : ((110 : Int), ((1 : Nat), (4 : Nat))) ∈ ctab := by decide +kernel
theorem tb_111 : ((111 : Int), ((1 : Nat), (4 : Nat))) ∈ ctab := by decide +kernel
theorem tb_112 : ((112 : Int), ((1 : Nat), (160 : Nat))) ∈ ctab := by decide +kernel
theorem tb_113 : ((113 : Int), ((1 : Nat), (40 : Nat))) ∈ ctab := by decide +kernel
theorem mr_0_8 : cmr 0 ((8 : Nat) : Int) = 76 := by decide +kernel
theorem mr_0_3 : cmr 0 ((3 : Nat) : Int) = 50 := by decide +kernel
theorem mr_0_7 : cmr 0 ((7 : Nat) : Int) = 75 := by decide +kernel
theorem mr_0_1 : cmr 0 ((1 : Nat) : Int) = 30 := by decide +kernel
theorem mr_0_10 : cmr 0 ((10 : Nat) : Int) = 79 := by decide +kernel
theorem mr_0_9 : cmr 0 ((9 : Nat) : Int) = 78 := by decide +kernel
theorem mr_0_12 : cmr 0 ((12 : Nat) : Int) = 81 := by decide +kernel
theorem mr_0_5 : cmr 0 ((5 : Nat) : Int) = 72 := by decide +kernel
theorem mr_0_6 : cmr 0 ((6 : Nat) : Int) = 74 := by decide +kernel
theorem mr_0_0 : cmr 0 ((0 : Nat) : Int) = 10 := by decide +kernel
theorem mr_0_11 : cmr 0 ((11 : Nat) : Int) = 80 := by decide +kernel
theorem mr_0_4 : cmr 0 ((4 : Nat) : Int) = 70 := by decide +kernel
theorem mr_0_13 : cmr 0 ((13 : Nat) : Int) = 82 := by decide +kernel
theorem mr_10_8 : cmr 10 ((8 : Nat) : Int) = 19 := by decide +kernel
theorem mr_10_1 : cmr 10 ((1 : Nat) : Int) = 11 := by decide +kernel
theorem mr_10_10 : cmr 10 ((10 : Nat) : Int) = 20 := by decide +kernel
theorem mr_10_11 : cmr 10 ((11 : Nat) : Int) = 21 := by decide +kernel
theorem mr_10_3 : cmr 10 ((3 : Nat) : Int) = 13 := by decide +kernel
theorem mr_10_13 : cmr 10 ((13 : Nat) : Int) = 22 := by decide +kernel
theorem mr_10_7 : cmr 10 ((7 : Nat) : Int) = 14 := by decide +kernel
theorem mr_10_2 : cmr 10 ((2 : Nat) : Int) = 12 := by decide +kernel
theorem mr_30_8 : cmr 30 ((8 : Nat) : Int) = 39 := by decide +kernel
theorem mr_30_1 : cmr 30 ((1 : Nat) : Int) = 31 := by decide +kernel
theorem mr_30_10 : cmr 30 ((10 : Nat) : Int) = 40 := by decide +kernel
theorem mr_30_11 : cmr 30 ((11 : Nat) : Int) = 41 := by decide +kernel
theorem mr_30_3 : cmr 30 ((3 : Nat) : Int) = 33 := by decide +kernel
theorem mr_30_13 : cmr 30 ((13 : Nat) : Int) = 42 := by decide +kernel
theorem mr_30_7 : cmr 30 ((7 : Nat) : Int) = 34 := by decide +kernel
theorem mr_30_2 : cmr 30 ((2 : Nat) : Int) = 32 := by decide +kernel
theorem mr_50_8 : cmr 50 ((8 : Nat) : Int) = 59 := by decide +kernel
theorem mr_50_1 : cmr 50 ((1 : Nat) : Int) = 51 := by decide +kernel
theorem mr_50_10 : cmr 50 ((10 : Nat) : Int) = 60 := by decide +kernel
theorem mr_50_11 : cmr 50 ((11 : Nat) : Int) = 61 := by decide +kernel
theorem mr_50_3 : cmr 50 ((3 : Nat) : Int) = 53 := by decide +kernel
theorem mr_50_13 : cmr 50 ((13 : Nat) : Int) = 62 := by decide +kernel
theorem mr_50_7 : cmr 50 ((7 : Nat) : Int) = 54 := by decide +kernel
theorem mr_50_2 : cmr 50 ((2 : Nat) : Int) = 52 := by decide +kernel
theorem mr_70_0 : cmr 70 ((0 : Nat) : Int) = 71 := by decide +kernel
theorem mr_72_2 : cmr 72 ((2 : Nat) : Int) = 73 := by decide +kernel
theorem mr_72_1 : cmr 72 ((1 : Nat) : Int) = 50 := by decide +kernel
theorem mr_72_0 : cmr 72 ((0 : Nat) : Int) = 70 := by decide +kernel
theorem mr_76_0 : cmr 76 ((0 : Nat) : Int) = 77 := by decide +kernel
theorem mr_90_2 : cmr 90 ((2 : Nat) : Int) = 91 := by decide +kernel
theorem mr_92_2 : cmr 92 ((2 : Nat) : Int) = 93 := by decide +kernel
theorem mr_94_2 : cmr 94 ((2 : Nat) : Int) = 95 := by decide +kernel
theorem mr_96_2 : cmr 96 ((2 : Nat) : Int) = 97 := by decide +kernel
theorem mr_100_17 : cmr 100 ((17 : Nat) : Int) = 110 := by decide +kernel
theorem mr_100_8 : cmr 100 ((8 : Nat) : Int) = 106 := by decide +kernel
theorem mr_100_1 : cmr 100 ((1 : Nat) : Int) = 102 := by decide +kernel
theorem mr_100_5 : cmr 100 ((5 : Nat) : Int) = 105 := by decide +kernel
theorem mr_100_20 : cmr 100 ((20 : Nat) : Int) = 113 := by decide +kernel
theorem mr_100_19 : cmr 100 ((19 : Nat) : Int) = 112 := by decide +kernel
theorem mr_100_2 : cmr 100 ((2 : Nat) : Int) = 103 := by decide +kernel
theorem mr_100_0 : cmr 100 ((0 : Nat) : Int) = 101 := by decide +kernel
theorem mr_100_9 : cmr 100 ((9 : Nat) : Int) = 107 := by decide +kernel
theorem mr_100_18 : cmr 100 ((18 : Nat) : Int) = 111 := by decide +kernel
theorem mr_100_3 : cmr 100 ((3 : Nat) : Int) = 104 := by decide +kernel
theorem mr_100_11 : cmr 100 ((11 : Nat) : Int) = 109 := by decide +kernel
theorem mr_100_10 : cmr 100 ((10 : Nat) : Int) = 108 := by decide +kernel
def scB (b : Int) : Prop := b = 10 ∨ b = 30 ∨ b = 50
theorem sc_0 {b : Int} (h : scB b) : (b, ((0 : Nat), (1 : Nat))) ∈ ctab := by rcases h with rfl | rfl | rfl <;> decide +kernel
theorem sc_1 {b : Int} (h : scB b) : (b + 1, ((1 : Nat), (10 : Nat))) ∈ ctab := by rcases h with rfl | rfl | rfl <;> decide +kernel
theorem sc_2 {b : Int} (h : scB b) : (b + 2, ((1 : Nat), (10 : Nat))) ∈ ctab := by rcases h with rfl | rfl | rfl <;> decide +kernel
theorem sc_3 {b : Int} (h : scB b) : (b + 3, ((1 : Nat), (10 : Nat))) ∈ ctab := by rcases h with rfl | rfl | rfl <;> decide +kernel
theorem sc_4 {b : Int} (h : scB b) : (b + 4, ((5 : Nat), (4 : Nat))) ∈ ctab := by rcases h with rfl | rfl | rfl <;> decide +kernel
theorem sc_9 {b : Int} (h : scB b) : (b + 9, ((1 : Nat), (4 : Nat))) ∈ ctab := by rcases h with rfl | rfl | rfl <;> decide +kernel
theorem sc_10 {b : Int} (h : scB b) : (b + 10, ((1 : Nat), (4 : Nat))) ∈ ctab := by rcases h with rfl | rfl | rfl <;> decide +kernel
theorem sc_11 {b : Int} (h : scB b) : (b + 11, ((1 : Nat), (4 : Nat))) ∈ ctab := by rcases h with rfl | rfl | rfl <;> decide +kernel
theorem sc_12 {b : Int} (h : scB b) : (b + 12, ((1 : Nat), (10 : Nat))) ∈ ctab := by rcases h with rfl | rfl | rfl <;> decide +kernel
theorem scm_1 {b : Int} (h : scB b) : cmr b ((1 : Nat) : Int) = b + 1 := by rcases h with rfl | rfl | rfl <;> decide +kernel
theorem scm_2 {b : Int} (h : scB b) : cmr b ((2 : Nat) : Int) = b + 2 := by rcases h with rfl | rfl | rfl <;> decide +kernel
theorem scm_3 {b : Int} (h : scB b) : cmr b ((3 : Nat) : Int) = b + 3 := by rcases h with rfl | rfl | rfl <;> decide +kernel
theorem scm_4 {b : Int} (h : scB b) : cmr b ((7 : Nat) : Int) = b + 4 := by rcases h with rfl | rfl | rfl <;> decide +kernel
theorem scm_9 {b : Int} (h : scB b) : cmr b ((8 : Nat) : Int) = b + 9 := by rcases h with rfl | rfl | rfl <;> decide +kernel
theorem scm_10 {b : Int} (h : scB b) : cmr b ((10 : Nat) : Int) = b + 10 := by rcases h with rfl | rfl | rfl <;> decide +kernel
theorem scm_11 {b : Int} (h : scB b) : cmr b ((11 : Nat) : Int) = b + 11 := by rcases h with rfl | rfl | rfl <;> decide +kernel
theorem scm_12 {b : Int} (h : scB b) : cmr b ((13 : Nat) : Int) = b + 12 := by rcases h with rfl | rfl | rfl <;> decide +kernel
theorem i4 {i : Int} (h : 0 ≤ i ∧ i < 4) : i = 0 ∨ i = 1 ∨ i = 2 ∨ i = 3 := by omega
theorem sc_k {b i : Int} (h : scB b) (hi : 0 ≤ i ∧ i < 4) : (b + 5 + i, ((1 : Nat), (6 : Nat))) ∈ ctab := by rcases h with rfl | rfl | rfl <;> rcases i4 hi with rfl | rfl | rfl | rfl <;> decide +kernel
theorem scm_k {b i : Int} (h : scB b) (hi : 0 ≤ i ∧ i < 4) : cmr (b + 4) i = b + 5 + i := by rcases h with rfl | rfl | rfl <;> rcases i4 hi with rfl | rfl | rfl | rfl <;> decide +kernel
theorem sk_10 {i : Int} (hi : 0 ≤ i ∧ i < 4) : (15 + i, ((1 : Nat), (6 : Nat))) ∈ ctab := by rcases i4 hi with rfl | rfl | rfl | rfl <;> decide +kernel
theorem skm_10 {i : Int} (hi : 0 ≤ i ∧ i < 4) : cmr 14 i = 15 + i := by rcases i4 hi with rfl | rfl | rfl | rfl <;> decide +kernel
theorem sk_30 {i : Int} (hi : 0 ≤ i ∧ i < 4) : (35 + i, ((1 : Nat), (6 : Nat))) ∈ ctab := by rcases i4 hi with rfl | rfl | rfl | rfl <;> decide +kernel
theorem skm_30 {i : Int} (hi : 0 ≤ i ∧ i < 4) : cmr 34 i = 35 + i := by rcases i4 hi with rfl | rfl | rfl | rfl <;> decide +kernel
theorem sk_50 {i : Int} (hi : 0 ≤ i ∧ i < 4) : (55 + i, ((1 : Nat), (6 : Nat))) ∈ ctab := by rcases i4 hi with rfl | rfl | rfl | rfl <;> decide +kernel
theorem skm_50 {i : Int} (hi : 0 ≤ i ∧ i < 4) : cmr 54 i = 55 + i := by rcases i4 hi with rfl | rfl | rfl | rfl <;> decide +kernel
def rwB (r : Int) : Prop := r = 90 ∨ r = 92 ∨ r = 94 ∨ r = 96
theorem rw_i {i : Int} (hi : 0 ≤ i ∧ i < 4) : rwB (90 + 2 * i) := by unfold rwB; omega
theorem rw_0 {r : Int} (h : rwB r) : (r, ((0 : Nat), (5 : Nat))) ∈ ctab := by rcases h with rfl | rfl | rfl | rfl <;> decide +kernel
theorem rw_1 {r : Int} (h : rwB r) : (r + 1, ((1 : Nat), (40 : Nat))) ∈ ctab := by rcases h with rfl | rfl | rfl | rfl <;> decide +kernel
theorem rwm_1 {r : Int} (h : rwB r) : cmr r ((2 : Nat) : Int) = r + 1 := by rcases h with rfl | rfl | rfl | rfl <;> decide +kernel
theorem rwm_k {i : Int} (hi : 0 ≤ i ∧ i < 4) : cmr 74 i = 90 + 2 * i := by rcases i4 hi with rfl | rfl | rfl | rfl <;> decide +kernel
theorem pd_0 : (parseMethodDescriptor "()B").map (fun d => d.parameters.length) = some 0 := by decide +kernel
theorem pd_1 : (parseMethodDescriptor "()I").map (fun d => d.parameters.length) = some 0 := by decide +kernel
theorem pd_2 : (parseMethodDescriptor "()J").map (fun d => d.parameters.length) = some 0 := by decide +kernel
theorem pd_3 : (parseMethodDescriptor "()V").map (fun d => d.parameters.length) = some 0 := by decide +kernel
theorem pd_4 : (parseMethodDescriptor "()Z").map (fun d => d.parameters.length) = some 0 := by decide +kernel
theorem pd_5 : (parseMethodDescriptor "(B)I").map (fun d => d.parameters.length) = some 1 := by decide +kernel
theorem pd_6 : (parseMethodDescriptor "(B)V").map (fun d => d.parameters.length) = some 1 := by decide +kernel
theorem pd_7 : (parseMethodDescriptor "(I)C").map (fun d => d.parameters.length) = some 1 := by decide +kernel
theorem pd_8 : (parseMethodDescriptor "(I)I").map (fun d => d.parameters.length) = some 1 := by decide +kernel
theorem pd_9 : (parseMethodDescriptor "(I)Ljava/lang/String;").map (fun d => d.parameters.length) = some 1 := by decide +kernel
theorem pd_10 : (parseMethodDescriptor "(I)V").map (fun d => d.parameters.length) = some 1 := by decide +kernel
theorem pd_11 : (parseMethodDescriptor "(I)Z").map (fun d => d.parameters.length) = some 1 := by decide +kernel
theorem pd_12 : (parseMethodDescriptor "(II)I").map (fun d => d.parameters.length) = some 2 := by decide +kernel
theorem pd_13 : (parseMethodDescriptor "(II)V").map (fun d => d.parameters.length) = some 2 := by decide +kernel
theorem pd_14 : (parseMethodDescriptor "(II)Z").map (fun d => d.parameters.length) = some 2 := by decide +kernel
theorem pd_15 : (parseMethodDescriptor "(III)I").map (fun d => d.parameters.length) = some 3 := by decide +kernel
theorem pd_16 : (parseMethodDescriptor "(III)V").map (fun d => d.parameters.length) = some 3 := by decide +kernel
theorem pd_17 : (parseMethodDescriptor "(III)Z").map (fun d => d.parameters.length) = some 3 := by decide +kernel
theorem pd_18 : (parseMethodDescriptor "(IIIII)I").map (fun d => d.parameters.length) = some 5 := by decide +kernel
theorem pd_19 : (parseMethodDescriptor "(IILjava/util/function/BiFunction;)I").map (fun d => d.parameters.length) = some 3 := by decide +kernel
theorem pd_20 : (parseMethodDescriptor "(IZ)I").map (fun d => d.parameters.length) = some 2 := by decide +kernel
theorem pd_21 : (parseMethodDescriptor "(IZ)V").map (fun d => d.parameters.length) = some 2 := by decide +kernel
theorem pd_22 : (parseMethodDescriptor "(IZI)I").map (fun d => d.parameters.length) = some 3 := by decide +kernel
theorem pd_23 : (parseMethodDescriptor "(I[II)V").map (fun d => d.parameters.length) = some 3 := by decide +kernel
theorem pd_24 : (parseMethodDescriptor "(JJJ)Z").map (fun d => d.parameters.length) = some 3 := by decide +kernel
theorem pd_25 : (parseMethodDescriptor "(LSlantSheets$Scene;)V").map (fun d => d.parameters.length) = some 1 := by decide +kernel
theorem pd_26 : (parseMethodDescriptor "(LSlantSheets$Scene;IIII)Z").map (fun d => d.parameters.length) = some 5 := by decide +kernel
theorem pd_27 : (parseMethodDescriptor "(Ljava/lang/String;)Z").map (fun d => d.parameters.length) = some 1 := by decide +kernel
theorem pd_28 : (parseMethodDescriptor "(Z)V").map (fun d => d.parameters.length) = some 1 := by decide +kernel
theorem pd_29 : (parseMethodDescriptor "([BI)C").map (fun d => d.parameters.length) = some 2 := by decide +kernel
theorem pd_30 : (parseMethodDescriptor "([I)Z").map (fun d => d.parameters.length) = some 1 := by decide +kernel
theorem pd_31 : (parseMethodDescriptor "([II)I").map (fun d => d.parameters.length) = some 2 := by decide +kernel
theorem pd_32 : (parseMethodDescriptor "([II)V").map (fun d => d.parameters.length) = some 2 := by decide +kernel
theorem pn_0 : plainName "SlantSheets" = true := by decide +kernel
theorem pm_0 : "SlantSheets" ≠ "java/lang/invoke/MethodHandle" ∧ "SlantSheets" ≠ "java/lang/invoke/VarHandle" := by decide +kernel
theorem pn_1 : plainName "SlantSheets$Arrangement" = true := by decide +kernel
theorem pm_1 : "SlantSheets$Arrangement" ≠ "java/lang/invoke/MethodHandle" ∧ "SlantSheets$Arrangement" ≠ "java/lang/invoke/VarHandle" := by decide +kernel
theorem pn_2 : plainName "SlantSheets$Light" = true := by decide +kernel
theorem pm_2 : "SlantSheets$Light" ≠ "java/lang/invoke/MethodHandle" ∧ "SlantSheets$Light" ≠ "java/lang/invoke/VarHandle" := by decide +kernel
theorem pn_3 : plainName "SlantSheets$Row" = true := by decide +kernel
theorem pm_3 : "SlantSheets$Row" ≠ "java/lang/invoke/MethodHandle" ∧ "SlantSheets$Row" ≠ "java/lang/invoke/VarHandle" := by decide +kernel
theorem pn_4 : plainName "SlantSheets$Scene" = true := by decide +kernel
theorem pm_4 : "SlantSheets$Scene" ≠ "java/lang/invoke/MethodHandle" ∧ "SlantSheets$Scene" ≠ "java/lang/invoke/VarHandle" := by decide +kernel
theorem pn_5 : plainName "SlantSheets$Tape" = true := by decide +kernel
theorem pm_5 : "SlantSheets$Tape" ≠ "java/lang/invoke/MethodHandle" ∧ "SlantSheets$Tape" ≠ "java/lang/invoke/VarHandle" := by decide +kernel
theorem pn_6 : plainName "SlantSheets$TextReader" = true := by decide +kernel
theorem pm_6 : "SlantSheets$TextReader" ≠ "java/lang/invoke/MethodHandle" ∧ "SlantSheets$TextReader" ≠ "java/lang/invoke/VarHandle" := by decide +kernel
theorem pn_7 : plainName "SlantSheetsLaw" = true := by decide +kernel
theorem pm_7 : "SlantSheetsLaw" ≠ "java/lang/invoke/MethodHandle" ∧ "SlantSheetsLaw" ≠ "java/lang/invoke/VarHandle" := by decide +kernel
theorem pn_8 : plainName "SlantSheetsModel" = true := by decide +kernel
theorem pm_8 : "SlantSheetsModel" ≠ "java/lang/invoke/MethodHandle" ∧ "SlantSheetsModel" ≠ "java/lang/invoke/VarHandle" := by decide +kernel
theorem pn_9 : plainName "java/lang/Integer" = true := by decide +kernel
theorem pm_9 : "java/lang/Integer" ≠ "java/lang/invoke/MethodHandle" ∧ "java/lang/Integer" ≠ "java/lang/invoke/VarHandle" := by decide +kernel
theorem pm_10 : "java/lang/Math" ≠ "java/lang/invoke/MethodHandle" ∧ "java/lang/Math" ≠ "java/lang/invoke/VarHandle" := by decide +kernel
theorem pn_11 : plainName "java/lang/String" = true := by decide +kernel
theorem pm_11 : "java/lang/String" ≠ "java/lang/invoke/MethodHandle" ∧ "java/lang/String" ≠ "java/lang/invoke/VarHandle" := by decide +kernel
theorem pn_12 : plainName "java/lang/StringLatin1" = true := by decide +kernel
theorem pm_12 : "java/lang/StringLatin1" ≠ "java/lang/invoke/MethodHandle" ∧ "java/lang/StringLatin1" ≠ "java/lang/invoke/VarHandle" := by decide +kernel
theorem pn_13 : plainName "java/util/Arrays" = true := by decide +kernel
theorem pm_13 : "java/util/Arrays" ≠ "java/lang/invoke/MethodHandle" ∧ "java/util/Arrays" ≠ "java/lang/invoke/VarHandle" := by decide +kernel
theorem pn_14 : plainName "jdk/internal/util/Preconditions" = true := by decide +kernel
theorem pm_14 : "jdk/internal/util/Preconditions" ≠ "java/lang/invoke/MethodHandle" ∧ "jdk/internal/util/Preconditions" ≠ "java/lang/invoke/VarHandle" := by decide +kernel
def xj_Arrays_fill : cMi := (⟨"java/util/Arrays", "fill", "([II)V"⟩, prog_16_method_103_code, 4, none, 0, 2)
theorem xj_Arrays_fill_ok : Mok xj_Arrays_fill := ⟨plainFor_of_name pn_13, bw_t (i := 35) (by decide +kernel) rfl, bw_t (i := 3) (by decide +kernel) rfl, ⟨pm_13.1, pm_13.2, pd_32⟩, Nat.le_of_ble_eq_true rfl, rfl⟩
theorem xj_Arrays_fill_st : Cond.static xj_Arrays_fill.1 ∈ bw := bw_t (i := 34) (by decide +kernel) rfl
def xs_sheet : cMi := (⟨"SlantSheets", "sheet", "(III)I"⟩, prog_1_method_2_code, 4, (some .int), 1, 3)
theorem xs_sheet_ok : Mok xs_sheet := ⟨plainFor_of_name pn_0, bw_t (i := 219) (by decide +kernel) rfl, bw_t (i := 1) (by decide +kernel) rfl, ⟨pm_0.1, pm_0.2, pd_15⟩, Nat.le_of_ble_eq_true rfl, rfl⟩
theorem xs_sheet_in : Cond.instanceMethod xs_sheet.1 ∈ bw := bw_t (i := 217) (by decide +kernel) rfl
theorem xs_sheet_se : Cond.selects xs_sheet.1.cls xs_sheet.1 xs_sheet.1 ∈ bw := bw_t (i := 218) (by decide +kernel) rfl
def xs_within : cMi := (⟨"SlantSheets", "within", "(II)Z"⟩, prog_1_method_51_code, 2, (some .boolean), 4, 2)
theorem xs_within_ok : Mok xs_within := ⟨plainFor_of_name pn_0, bw_t (i := 222) (by decide +kernel) rfl, bw_t (i := 1) (by decide +kernel) rfl, ⟨pm_0.1, pm_0.2, pd_14⟩, Nat.le_of_ble_eq_true rfl, rfl⟩
theorem xs_within_st : Cond.static xs_within.1 ∈ bw := bw_t (i := 221) (by decide +kernel) rfl
def xs_isShare : cMi := (⟨"SlantSheets", "isShare", "(I)Z"⟩, prog_1_method_52_code, 1, (some .boolean), 4, 1)
theorem xs_isShare_ok : Mok xs_isShare := ⟨plainFor_of_name pn_0, bw_t (i := 225) (by decide +kernel) rfl, bw_t (i := 1) (by decide +kernel) rfl, ⟨pm_0.1, pm_0.2, pd_11⟩, Nat.le_of_ble_eq_true rfl, rfl⟩
theorem xs_isShare_st : Cond.static xs_isShare.1 ∈ bw := bw_t (i := 224) (by decide +kernel) rfl
def xs_finding : cMi := (⟨"SlantSheets", "finding", "(I)I"⟩, prog_1_method_50_code, 2, (some .int), 1, 1)
theorem xs_finding_ok : Mok xs_finding := ⟨plainFor_of_name pn_0, bw_t (i := 230) (by decide +kernel) rfl, bw_t (i := 1) (by decide +kernel) rfl, ⟨pm_0.1, pm_0.2, pd_8⟩, Nat.le_of_ble_eq_true rfl, rfl⟩
theorem xs_finding_in : Cond.instanceMethod xs_finding.1 ∈ bw := bw_t (i := 229) (by decide +kernel) rfl
theorem xs_finding_se : Cond.selects xs_finding.1.cls xs_finding.1 xs_finding.1 ∈ bw := bw_s (i := 0) (q := (xs_finding.1, 14)) (by decide +kernel)
def xg_addSheet : cMi := (⟨"SlantSheets$Scene", "addSheet", "(III)I"⟩, prog_5_method_3_code, 4, (some .int), 1, 3)
theorem xg_addSheet_ok : Mok xg_addSheet := ⟨plainFor_of_name pn_4, bw_t (i := 235) (by decide +kernel) rfl, bw_t (i := 2) (by decide +kernel) rfl, ⟨pm_4.1, pm_4.2, pd_15⟩, Nat.le_of_ble_eq_true rfl, rfl⟩
theorem xg_addSheet_in : Cond.instanceMethod xg_addSheet.1 ∈ bw := bw_t (i := 233) (by decide +kernel) rfl
theorem xg_addSheet_se : Cond.selects xg_addSheet.1.cls xg_addSheet.1 xg_addSheet.1 ∈ bw := bw_t (i := 234) (by decide +kernel) rfl
def xs_sheetOf : cMi := (⟨"SlantSheets", "sheetOf", "(II)I"⟩, prog_1_method_3_code, 3, (some .int), 1, 2)
theorem xs_sheetOf_ok : Mok xs_sheetOf := ⟨plainFor_of_name pn_0, bw_t (i := 239) (by decide +kernel) rfl, bw_t (i := 1) (by decide +kernel) rfl, ⟨pm_0.1, pm_0.2, pd_12⟩, Nat.le_of_ble_eq_true rfl, rfl⟩
theorem xs_sheetOf_in : Cond.instanceMethod xs_sheetOf.1 ∈ bw := bw_t (i := 237) (by decide +kernel) rfl
theorem xs_sheetOf_se : Cond.selects xs_sheetOf.1.cls xs_sheetOf.1 xs_sheetOf.1 ∈ bw := bw_t (i := 238) (by decide +kernel) rfl
def xs_isSheet : cMi := (⟨"SlantSheets", "isSheet", "(I)Z"⟩, prog_1_method_53_code, 2, (some .boolean), 4, 1)
theorem xs_isSheet_ok : Mok xs_isSheet := ⟨plainFor_of_name pn_0, bw_t (i := 243) (by decide +kernel) rfl, bw_t (i := 1) (by decide +kernel) rfl, ⟨pm_0.1, pm_0.2, pd_11⟩, Nat.le_of_ble_eq_true rfl, rfl⟩
theorem xs_isSheet_in : Cond.instanceMethod xs_isSheet.1 ∈ bw := bw_t (i := 242) (by decide +kernel) rfl
theorem xs_isSheet_se : Cond.selects xs_isSheet.1.cls xs_isSheet.1 xs_isSheet.1 ∈ bw := bw_s (i := 1) (q := (xs_isSheet.1, 14)) (by decide +kernel)
def xg_property : cMi := (⟨"SlantSheets$Scene", "property", "(II)I"⟩, prog_5_method_4_code, 3, (some .int), 1, 2)
theorem xg_property_ok : Mok xg_property := ⟨plainFor_of_name pn_4, bw_t (i := 247) (by decide +kernel) rfl, bw_t (i := 2) (by decide +kernel) rfl, ⟨pm_4.1, pm_4.2, pd_12⟩, Nat.le_of_ble_eq_true rfl, rfl⟩
theorem xg_property_in : Cond.instanceMethod xg_property.1 ∈ bw := bw_t (i := 245) (by decide +kernel) rfl
theorem xg_property_se : Cond.selects xg_property.1.cls xg_property.1 xg_property.1 ∈ bw := bw_t (i := 246) (by decide +kernel) rfl
def xs_change : cMi := (⟨"SlantSheets", "change", "(III)I"⟩, prog_1_method_4_code, 5, (some .int), 1, 3)
theorem xs_change_ok : Mok xs_change := ⟨plainFor_of_name pn_0, bw_t (i := 251) (by decide +kernel) rfl, bw_t (i := 1) (by decide +kernel) rfl, ⟨pm_0.1, pm_0.2, pd_15⟩, Nat.le_of_ble_eq_true rfl, rfl⟩
theorem xs_change_in : Cond.instanceMethod xs_change.1 ∈ bw := bw_t (i := 249) (by decide +kernel) rfl
theorem xs_change_se : Cond.selects xs_change.1.cls xs_change.1 xs_change.1 ∈ bw := bw_t (i := 250) (by decide +kernel) rfl
def xs_isProperty : cMi := (⟨"SlantSheets", "isProperty", "(II)Z"⟩, prog_1_method_55_code, 2, (some .boolean), 4, 2)
theorem xs_isProperty_ok : Mok xs_isProperty := ⟨plainFor_of_name pn_0, bw_t (i := 254) (by decide +kernel) rfl, bw_t (i := 1) (by decide +kernel) rfl, ⟨pm_0.1, pm_0.2, pd_14⟩, Nat.le_of_ble_eq_true rfl, rfl⟩
theorem xs_isProperty_st : Cond.static xs_isProperty.1 ∈ bw := bw_t (i := 253) (by decide +kernel) rfl
def xg_setProperty : cMi := (⟨"SlantSheets$Scene", "setProperty", "(III)V"⟩, prog_5_method_5_code, 4, none, 0, 3)
theorem xg_setProperty_ok : Mok xg_setProperty := ⟨plainFor_of_name pn_4, bw_t (i := 258) (by decide +kernel) rfl, bw_t (i := 2) (by decide +kernel) rfl, ⟨pm_4.1, pm_4.2, pd_16⟩, Nat.le_of_ble_eq_true rfl, rfl⟩
theorem xg_setProperty_in : Cond.instanceMethod xg_setProperty.1 ∈ bw := bw_t (i := 256) (by decide +kernel) rfl
theorem xg_setProperty_se : Cond.selects xg_setProperty.1.cls xg_setProperty.1 xg_setProperty.1 ∈ bw := bw_t (i := 257) (by decide +kernel) rfl
def xs_load : cMi := (⟨"SlantSheets", "load", "(I)I"⟩, prog_1_method_5_code, 3, (some .int), 1, 1)
theorem xs_load_ok : Mok xs_load := ⟨plainFor_of_name pn_0, bw_t (i := 262) (by decide +kernel) rfl, bw_t (i := 1) (by decide +kernel) rfl, ⟨pm_0.1, pm_0.2, pd_8⟩, Nat.le_of_ble_eq_true rfl, rfl⟩
theorem xs_load_in : Cond.instanceMethod xs_load.1 ∈ bw := bw_t (i := 260) (by decide +kernel) rfl
theorem xs_load_se : Cond.selects xs_load.1.cls xs_load.1 xs_load.1 ∈ bw := bw_t (i := 261) (by decide +kernel) rfl
def xs_lamp : cMi := (⟨"SlantSheets", "lamp", "(II)I"⟩, prog_1_method_6_code, 4, (some .int), 1, 2)
theorem xs_lamp_ok : Mok xs_lamp := ⟨plainFor_of_name pn_0, bw_t (i := 266) (by decide +kernel) rfl, bw_t (i := 1) (by decide +kernel) rfl, ⟨pm_0.1, pm_0.2, pd_12⟩, Nat.le_of_ble_eq_true rfl, rfl⟩
theorem xs_lamp_in : Cond.instanceMethod xs_lamp.1 ∈ bw := bw_t (i := 264) (by decide +kernel) rfl
theorem xs_lamp_se : Cond.selects xs_lamp.1.cls xs_lamp.1 xs_lamp.1 ∈ bw := bw_t (i := 265) (by decide +kernel) rfl
def xs_lay : cMi := (⟨"SlantSheets", "lay", "(II)I"⟩, prog_1_method_7_code, 3, (some .int), 1, 2)
theorem xs_lay_ok : Mok xs_lay := ⟨plainFor_of_name pn_0, bw_t (i := 270) (by decide +kernel) rfl, bw_t (i := 1) (by decide +kernel) rfl, ⟨pm_0.1, pm_0.2, pd_12⟩, Nat.le_of_ble_eq_true rfl, rfl⟩
theorem xs_lay_in : Cond.instanceMethod xs_lay.1 ∈ bw := bw_t (i := 268) (by decide +kernel) rfl
theorem xs_lay_se : Cond.selects xs_lay.1.cls xs_lay.1 xs_lay.1 ∈ bw := bw_t (i := 269) (by decide +kernel) rfl
def xs_isStack : cMi := (⟨"SlantSheets", "isStack", "(I)Z"⟩, prog_1_method_54_code, 1, (some .boolean), 4, 1)
theorem xs_isStack_ok : Mok xs_isStack := ⟨plainFor_of_name pn_0, bw_t (i := 273) (by decide +kernel) rfl, bw_t (i := 1) (by decide +kernel) rfl, ⟨pm_0.1, pm_0.2, pd_11⟩, Nat.le_of_ble_eq_true rfl, rfl⟩
theorem xs_isStack_st : Cond.static xs_isStack.1 ∈ bw := bw_t (i := 272) (by decide +kernel) rfl
def xg_hasRoom : cMi := (⟨"SlantSheets$Scene", "hasRoom", "(I)Z"⟩, prog_5_method_6_code, 2, (some .boolean), 4, 1)
theorem xg_hasRoom_ok : Mok xg_hasRoom := ⟨plainFor_of_name pn_4, bw_t (i := 277) (by decide +kernel) rfl, bw_t (i := 2) (by decide +kernel) rfl, ⟨pm_4.1, pm_4.2, pd_11⟩, Nat.le_of_ble_eq_true rfl, rfl⟩
theorem xg_hasRoom_in : Cond.instanceMethod xg_hasRoom.1 ∈ bw := bw_t (i := 275) (by decide +kernel) rfl
theorem xg_hasRoom_se : Cond.selects xg_hasRoom.1.cls xg_hasRoom.1 xg_hasRoom.1 ∈ bw := bw_t (i := 276) (by decide +kernel) rfl
def xg_put : cMi := (⟨"SlantSheets$Scene", "put", "(II)V"⟩, prog_5_method_7_code, 3, none, 0, 2)
theorem xg_put_ok : Mok xg_put := ⟨plainFor_of_name pn_4, bw_t (i := 281) (by decide +kernel) rfl, bw_t (i := 2) (by decide +kernel) rfl, ⟨pm_4.1, pm_4.2, pd_13⟩, Nat.le_of_ble_eq_true rfl, rfl⟩
theorem xg_put_in : Cond.instanceMethod xg_put.1 ∈ bw := bw_t (i := 279) (by decide +kernel) rfl
theorem xg_put_se : Cond.selects xg_put.1.cls xg_put.1 xg_put.1 ∈ bw := bw_t (i := 280) (by decide +kernel) rfl
def xs_off : cMi := (⟨"SlantSheets", "off", "(I)I"⟩, prog_1_method_8_code, 2, (some .int), 1, 1)
theorem xs_off_ok : Mok xs_off := ⟨plainFor_of_name pn_0, bw_t (i := 285) (by decide +kernel) rfl, bw_t (i := 1) (by decide +kernel) rfl, ⟨pm_0.1, pm_0.2, pd_8⟩, Nat.le_of_ble_eq_true rfl, rfl⟩
theorem xs_off_in : Cond.instanceMethod xs_off.1 ∈ bw := bw_t (i := 283) (by decide +kernel) rfl
theorem xs_off_se : Cond.selects xs_off.1.cls xs_off.1 xs_off.1 ∈ bw := bw_t (i := 284) (by decide +kernel) rfl
def xs_at : cMi := (⟨"SlantSheets", "at", "(II)I"⟩, prog_1_method_9_code, 3, (some .int), 1, 2)
theorem xs_at_ok : Mok xs_at := ⟨plainFor_of_name pn_0, bw_t (i := 290) (by decide +kernel) rfl, bw_t (i := 1) (by decide +kernel) rfl, ⟨pm_0.1, pm_0.2, pd_12⟩, Nat.le_of_ble_eq_true rfl, rfl⟩
theorem xs_at_in : Cond.instanceMethod xs_at.1 ∈ bw := bw_t (i := 288) (by decide +kernel) rfl
theorem xs_at_se : Cond.selects xs_at.1.cls xs_at.1 xs_at.1 ∈ bw := bw_t (i := 289) (by decide +kernel) rfl
def xs_round : cMi := (⟨"SlantSheets", "round", "(I)I"⟩, prog_1_method_10_code, 6, (some .int), 1, 1)
theorem xs_round_ok : Mok xs_round := ⟨plainFor_of_name pn_0, bw_t (i := 294) (by decide +kernel) rfl, bw_t (i := 1) (by decide +kernel) rfl, ⟨pm_0.1, pm_0.2, pd_8⟩, Nat.le_of_ble_eq_true rfl, rfl⟩
theorem xs_round_in : Cond.instanceMethod xs_round.1 ∈ bw := bw_t (i := 292) (by decide +kernel) rfl
theorem xs_round_se : Cond.selects xs_round.1.cls xs_round.1 xs_round.1 ∈ bw := bw_t (i := 293) (by decide +kernel) rfl
def xs_like : cMi := (⟨"SlantSheets", "like", "(II)I"⟩, prog_1_method_11_code, 3, (some .int), 1, 2)
theorem xs_like_ok : Mok xs_like := ⟨plainFor_of_name pn_0, bw_t (i := 298) (by decide +kernel) rfl, bw_t (i := 1) (by decide +kernel) rfl, ⟨pm_0.1, pm_0.2, pd_12⟩, Nat.le_of_ble_eq_true rfl, rfl⟩
theorem xs_like_in : Cond.instanceMethod xs_like.1 ∈ bw := bw_t (i := 296) (by decide +kernel) rfl
theorem xs_like_se : Cond.selects xs_like.1.cls xs_like.1 xs_like.1 ∈ bw := bw_t (i := 297) (by decide +kernel) rfl
def xg_setStack : cMi := (⟨"SlantSheets$Scene", "setStack", "(I[II)V"⟩, prog_5_method_8_code, 4, none, 0, 3)
theorem xg_setStack_ok : Mok xg_setStack := ⟨plainFor_of_name pn_4, bw_t (i := 302) (by decide +kernel) rfl, bw_t (i := 2) (by decide +kernel) rfl, ⟨pm_4.1, pm_4.2, pd_23⟩, Nat.le_of_ble_eq_true rfl, rfl⟩
theorem xg_setStack_in : Cond.instanceMethod xg_setStack.1 ∈ bw := bw_t (i := 300) (by decide +kernel) rfl
theorem xg_setStack_se : Cond.selects xg_setStack.1.cls xg_setStack.1 xg_setStack.1 ∈ bw := bw_t (i := 301) (by decide +kernel) rfl
def xs_through : cMi := (⟨"SlantSheets", "through", "(IZI)I"⟩, prog_1_method_12_code, 5, (some .int), 1, 3)
theorem xs_through_ok : Mok xs_through := ⟨plainFor_of_name pn_0, bw_t (i := 309) (by decide +kernel) rfl, bw_t (i := 1) (by decide +kernel) rfl, ⟨pm_0.1, pm_0.2, pd_22⟩, Nat.le_of_ble_eq_true rfl, rfl⟩
theorem xs_through_in : Cond.instanceMethod xs_through.1 ∈ bw := bw_t (i := 307) (by decide +kernel) rfl
theorem xs_through_se : Cond.selects xs_through.1.cls xs_through.1 xs_through.1 ∈ bw := bw_t (i := 308) (by decide +kernel) rfl
def xg_lampLight : cMi := (⟨"SlantSheets$Scene", "lampLight", "()I"⟩, prog_5_method_14_code, 1, (some .int), 1, 0)
theorem xg_lampLight_ok : Mok xg_lampLight := ⟨plainFor_of_name pn_4, bw_t (i := 313) (by decide +kernel) rfl, bw_t (i := 2) (by decide +kernel) rfl, ⟨pm_4.1, pm_4.2, pd_1⟩, Nat.le_of_ble_eq_true rfl, rfl⟩
theorem xg_lampLight_in : Cond.instanceMethod xg_lampLight.1 ∈ bw := bw_t (i := 311) (by decide +kernel) rfl
theorem xg_lampLight_se : Cond.selects xg_lampLight.1.cls xg_lampLight.1 xg_lampLight.1 ∈ bw := bw_t (i := 312) (by decide +kernel) rfl
def xl_of : cMi := (⟨"SlantSheets$Light", "of", "(II)I"⟩, prog_3_method_2_code, 2, (some .int), 1, 2)
theorem xl_of_ok : Mok xl_of := ⟨plainFor_of_name pn_2, bw_t (i := 316) (by decide +kernel) rfl, bw_t (i := 10) (by decide +kernel) rfl, ⟨pm_2.1, pm_2.2, pd_12⟩, Nat.le_of_ble_eq_true rfl, rfl⟩
theorem xl_of_st : Cond.static xl_of.1 ∈ bw := bw_t (i := 315) (by decide +kernel) rfl
def xg_behindStack : cMi := (⟨"SlantSheets$Scene", "behindStack", "(IZI)I"⟩, prog_5_method_16_code, 7, (some .int), 1, 3)
theorem xg_behindStack_ok : Mok xg_behindStack := ⟨plainFor_of_name pn_4, bw_t (i := 320) (by decide +kernel) rfl, bw_t (i := 2) (by decide +kernel) rfl, ⟨pm_4.1, pm_4.2, pd_22⟩, Nat.le_of_ble_eq_true rfl, rfl⟩
theorem xg_behindStack_in : Cond.instanceMethod xg_behindStack.1 ∈ bw := bw_t (i := 318) (by decide +kernel) rfl
theorem xg_behindStack_se : Cond.selects xg_behindStack.1.cls xg_behindStack.1 xg_behindStack.1 ∈ bw := bw_t (i := 319) (by decide +kernel) rfl
def xg_behindSheet : cMi := (⟨"SlantSheets$Scene", "behindSheet", "(IZI)I"⟩, prog_5_method_15_code, 5, (some .int), 1, 3)
theorem xg_behindSheet_ok : Mok xg_behindSheet := ⟨plainFor_of_name pn_4, bw_t (i := 324) (by decide +kernel) rfl, bw_t (i := 2) (by decide +kernel) rfl, ⟨pm_4.1, pm_4.2, pd_22⟩, Nat.le_of_ble_eq_true rfl, rfl⟩
theorem xg_behindSheet_in : Cond.instanceMethod xg_behindSheet.1 ∈ bw := bw_t (i := 322) (by decide +kernel) rfl
theorem xg_behindSheet_se : Cond.selects xg_behindSheet.1.cls xg_behindSheet.1 xg_behindSheet.1 ∈ bw := bw_t (i := 323) (by decide +kernel) rfl
def xl_filtered : cMi := (⟨"SlantSheets$Light", "filtered", "(II)I"⟩, prog_3_method_9_code, 2, (some .int), 1, 2)
theorem xl_filtered_ok : Mok xl_filtered := ⟨plainFor_of_name pn_2, bw_t (i := 327) (by decide +kernel) rfl, bw_t (i := 10) (by decide +kernel) rfl, ⟨pm_2.1, pm_2.2, pd_12⟩, Nat.le_of_ble_eq_true rfl, rfl⟩
theorem xl_filtered_st : Cond.static xl_filtered.1 ∈ bw := bw_t (i := 326) (by decide +kernel) rfl
def xl_seenAt : cMi := (⟨"SlantSheets$Light", "seenAt", "(II)I"⟩, prog_3_method_8_code, 3, (some .int), 1, 2)
theorem xl_seenAt_ok : Mok xl_seenAt := ⟨plainFor_of_name pn_2, bw_t (i := 330) (by decide +kernel) rfl, bw_t (i := 10) (by decide +kernel) rfl, ⟨pm_2.1, pm_2.2, pd_12⟩, Nat.le_of_ble_eq_true rfl, rfl⟩
theorem xl_seenAt_st : Cond.static xl_seenAt.1 ∈ bw := bw_t (i := 329) (by decide +kernel) rfl
def xl_slant : cMi := (⟨"SlantSheets$Light", "slant", "(I)I"⟩, prog_3_method_4_code, 1, (some .int), 1, 1)
theorem xl_slant_ok : Mok xl_slant := ⟨plainFor_of_name pn_2, bw_t (i := 333) (by decide +kernel) rfl, bw_t (i := 10) (by decide +kernel) rfl, ⟨pm_2.1, pm_2.2, pd_8⟩, Nat.le_of_ble_eq_true rfl, rfl⟩
theorem xl_slant_st : Cond.static xl_slant.1 ∈ bw := bw_t (i := 332) (by decide +kernel) rfl
def xl_share : cMi := (⟨"SlantSheets$Light", "share", "(I)I"⟩, prog_3_method_3_code, 1, (some .int), 1, 1)
theorem xl_share_ok : Mok xl_share := ⟨plainFor_of_name pn_2, bw_t (i := 336) (by decide +kernel) rfl, bw_t (i := 10) (by decide +kernel) rfl, ⟨pm_2.1, pm_2.2, pd_8⟩, Nat.le_of_ble_eq_true rfl, rfl⟩
theorem xl_share_st : Cond.static xl_share.1 ∈ bw := bw_t (i := 335) (by decide +kernel) rfl
def xl_cos : cMi := (⟨"SlantSheets$Light", "cos", "(II)I"⟩, prog_3_method_7_code, 3, (some .int), 1, 2)
theorem xl_cos_ok : Mok xl_cos := ⟨plainFor_of_name pn_2, bw_t (i := 339) (by decide +kernel) rfl, bw_t (i := 10) (by decide +kernel) rfl, ⟨pm_2.1, pm_2.2, pd_12⟩, Nat.le_of_ble_eq_true rfl, rfl⟩
theorem xl_cos_st : Cond.static xl_cos.1 ∈ bw := bw_t (i := 338) (by decide +kernel) rfl
def xl_part : cMi := (⟨"SlantSheets$Light", "part", "(II)I"⟩, prog_3_method_6_code, 2, (some .int), 1, 2)
theorem xl_part_ok : Mok xl_part := ⟨plainFor_of_name pn_2, bw_t (i := 344) (by decide +kernel) rfl, bw_t (i := 10) (by decide +kernel) rfl, ⟨pm_2.1, pm_2.2, pd_12⟩, Nat.le_of_ble_eq_true rfl, rfl⟩
theorem xl_part_st : Cond.static xl_part.1 ∈ bw := bw_t (i := 343) (by decide +kernel) rfl
def xl_dimmed : cMi := (⟨"SlantSheets$Light", "dimmed", "(II)I"⟩, prog_3_method_10_code, 2, (some .int), 1, 2)
theorem xl_dimmed_ok : Mok xl_dimmed := ⟨plainFor_of_name pn_2, bw_t (i := 348) (by decide +kernel) rfl, bw_t (i := 10) (by decide +kernel) rfl, ⟨pm_2.1, pm_2.2, pd_12⟩, Nat.le_of_ble_eq_true rfl, rfl⟩
theorem xl_dimmed_st : Cond.static xl_dimmed.1 ∈ bw := bw_t (i := 347) (by decide +kernel) rfl
def xl_turned : cMi := (⟨"SlantSheets$Light", "turned", "(II)I"⟩, prog_3_method_11_code, 3, (some .int), 1, 2)
theorem xl_turned_ok : Mok xl_turned := ⟨plainFor_of_name pn_2, bw_t (i := 351) (by decide +kernel) rfl, bw_t (i := 10) (by decide +kernel) rfl, ⟨pm_2.1, pm_2.2, pd_12⟩, Nat.le_of_ble_eq_true rfl, rfl⟩
theorem xl_turned_st : Cond.static xl_turned.1 ∈ bw := bw_t (i := 350) (by decide +kernel) rfl
def xl_mirrored : cMi := (⟨"SlantSheets$Light", "mirrored", "(II)I"⟩, prog_3_method_12_code, 3, (some .int), 1, 2)
theorem xl_mirrored_ok : Mok xl_mirrored := ⟨plainFor_of_name pn_2, bw_t (i := 354) (by decide +kernel) rfl, bw_t (i := 10) (by decide +kernel) rfl, ⟨pm_2.1, pm_2.2, pd_12⟩, Nat.le_of_ble_eq_true rfl, rfl⟩
theorem xl_mirrored_st : Cond.static xl_mirrored.1 ∈ bw := bw_t (i := 353) (by decide +kernel) rfl
def xj_Math_floorMod : cMi := (⟨"java/lang/Math", "floorMod", "(II)I"⟩, prog_11_method_50_code, 3, (some .int), 1, 2)
theorem xj_Math_floorMod_ok : Mok xj_Math_floorMod := ⟨by decide +kernel, bw_t (i := 357) (by decide +kernel) rfl, bw_t (i := 11) (by decide +kernel) rfl, ⟨pm_10.1, pm_10.2, pd_12⟩, Nat.le_of_ble_eq_true rfl, rfl⟩
theorem xj_Math_floorMod_st : Cond.static xj_Math_floorMod.1 ∈ bw := bw_t (i := 356) (by decide +kernel) rfl
def xs_seen : cMi := (⟨"SlantSheets", "seen", "(IZI)I"⟩, prog_1_method_13_code, 4, (some .int), 1, 3)
theorem xs_seen_ok : Mok xs_seen := ⟨plainFor_of_name pn_0, bw_t (i := 363) (by decide +kernel) rfl, bw_t (i := 1) (by decide +kernel) rfl, ⟨pm_0.1, pm_0.2, pd_22⟩, Nat.le_of_ble_eq_true rfl, rfl⟩
theorem xs_seen_in : Cond.instanceMethod xs_seen.1 ∈ bw := bw_t (i := 361) (by decide +kernel) rfl
theorem xs_seen_se : Cond.selects xs_seen.1.cls xs_seen.1 xs_seen.1 ∈ bw := bw_t (i := 362) (by decide +kernel) rfl
def xs_bright : cMi := (⟨"SlantSheets", "bright", "(IZ)I"⟩, prog_1_method_14_code, 6, (some .int), 1, 2)
theorem xs_bright_ok : Mok xs_bright := ⟨plainFor_of_name pn_0, bw_t (i := 368) (by decide +kernel) rfl, bw_t (i := 1) (by decide +kernel) rfl, ⟨pm_0.1, pm_0.2, pd_20⟩, Nat.le_of_ble_eq_true rfl, rfl⟩
theorem xs_bright_in : Cond.instanceMethod xs_bright.1 ∈ bw := bw_t (i := 366) (by decide +kernel) rfl
theorem xs_bright_se : Cond.selects xs_bright.1.cls xs_bright.1 xs_bright.1 ∈ bw := bw_t (i := 367) (by decide +kernel) rfl
def xs_dark : cMi := (⟨"SlantSheets", "dark", "(IZ)I"⟩, prog_1_method_15_code, 6, (some .int), 1, 2)
theorem xs_dark_ok : Mok xs_dark := ⟨plainFor_of_name pn_0, bw_t (i := 372) (by decide +kernel) rfl, bw_t (i := 1) (by decide +kernel) rfl, ⟨pm_0.1, pm_0.2, pd_20⟩, Nat.le_of_ble_eq_true rfl, rfl⟩
theorem xs_dark_in : Cond.instanceMethod xs_dark.1 ∈ bw := bw_t (i := 370) (by decide +kernel) rfl
theorem xs_dark_se : Cond.selects xs_dark.1.cls xs_dark.1 xs_dark.1 ∈ bw := bw_t (i := 371) (by decide +kernel) rfl
def xs_alike : cMi := (⟨"SlantSheets", "alike", "(III)I"⟩, prog_1_method_16_code, 4, (some .int), 1, 3)
theorem xs_alike_ok : Mok xs_alike := ⟨plainFor_of_name pn_0, bw_t (i := 376) (by decide +kernel) rfl, bw_t (i := 1) (by decide +kernel) rfl, ⟨pm_0.1, pm_0.2, pd_15⟩, Nat.le_of_ble_eq_true rfl, rfl⟩
theorem xs_alike_in : Cond.instanceMethod xs_alike.1 ∈ bw := bw_t (i := 374) (by decide +kernel) rfl
theorem xs_alike_se : Cond.selects xs_alike.1.cls xs_alike.1 xs_alike.1 ∈ bw := bw_t (i := 375) (by decide +kernel) rfl
def xg_frontLight : cMi := (⟨"SlantSheets$Scene", "frontLight", "(I)I"⟩, prog_5_method_17_code, 2, (some .int), 1, 1)
theorem xg_frontLight_ok : Mok xg_frontLight := ⟨plainFor_of_name pn_4, bw_t (i := 380) (by decide +kernel) rfl, bw_t (i := 2) (by decide +kernel) rfl, ⟨pm_4.1, pm_4.2, pd_8⟩, Nat.le_of_ble_eq_true rfl, rfl⟩
theorem xg_frontLight_in : Cond.instanceMethod xg_frontLight.1 ∈ bw := bw_t (i := 378) (by decide +kernel) rfl
theorem xg_frontLight_se : Cond.selects xg_frontLight.1.cls xg_frontLight.1 xg_frontLight.1 ∈ bw := bw_t (i := 379) (by decide +kernel) rfl
def xs_tiltsApart : cMi := (⟨"SlantSheets", "tiltsApart", "(III)I"⟩, prog_1_method_58_code, 5, (some .int), 1, 3)
theorem xs_tiltsApart_ok : Mok xs_tiltsApart := ⟨plainFor_of_name pn_0, bw_t (i := 385) (by decide +kernel) rfl, bw_t (i := 1) (by decide +kernel) rfl, ⟨pm_0.1, pm_0.2, pd_15⟩, Nat.le_of_ble_eq_true rfl, rfl⟩
theorem xs_tiltsApart_st : Cond.static xs_tiltsApart.1 ∈ bw := bw_t (i := 384) (by decide +kernel) rfl
def xj_Math_abs : cMi := (⟨"java/lang/Math", "abs", "(I)I"⟩, prog_11_method_59_code, 1, (some .int), 1, 1)
theorem xj_Math_abs_ok : Mok xj_Math_abs := ⟨by decide +kernel, bw_t (i := 388) (by decide +kernel) rfl, bw_t (i := 11) (by decide +kernel) rfl, ⟨pm_10.1, pm_10.2, pd_8⟩, Nat.le_of_ble_eq_true rfl, rfl⟩
theorem xj_Math_abs_st : Cond.static xj_Math_abs.1 ∈ bw := bw_t (i := 387) (by decide +kernel) rfl
def xs_sky : cMi := (⟨"SlantSheets", "sky", "(II)I"⟩, prog_1_method_17_code, 4, (some .int), 1, 2)
theorem xs_sky_ok : Mok xs_sky := ⟨plainFor_of_name pn_0, bw_t (i := 392) (by decide +kernel) rfl, bw_t (i := 1) (by decide +kernel) rfl, ⟨pm_0.1, pm_0.2, pd_12⟩, Nat.le_of_ble_eq_true rfl, rfl⟩
theorem xs_sky_in : Cond.instanceMethod xs_sky.1 ∈ bw := bw_t (i := 390) (by decide +kernel) rfl
theorem xs_sky_se : Cond.selects xs_sky.1.cls xs_sky.1 xs_sky.1 ∈ bw := bw_t (i := 391) (by decide +kernel) rfl
def xl_ofSky : cMi := (⟨"SlantSheets$Light", "ofSky", "(I)I"⟩, prog_3_method_5_code, 1, (some .int), 1, 1)
theorem xl_ofSky_ok : Mok xl_ofSky := ⟨plainFor_of_name pn_2, bw_t (i := 395) (by decide +kernel) rfl, bw_t (i := 10) (by decide +kernel) rfl, ⟨pm_2.1, pm_2.2, pd_8⟩, Nat.le_of_ble_eq_true rfl, rfl⟩
theorem xl_ofSky_st : Cond.static xl_ofSky.1 ∈ bw := bw_t (i := 394) (by decide +kernel) rfl
def xs_hours : cMi := (⟨"SlantSheets", "hours", "(III)I"⟩, prog_1_method_18_code, 7, (some .int), 1, 3)
theorem xs_hours_ok : Mok xs_hours := ⟨plainFor_of_name pn_0, bw_t (i := 399) (by decide +kernel) rfl, bw_t (i := 1) (by decide +kernel) rfl, ⟨pm_0.1, pm_0.2, pd_15⟩, Nat.le_of_ble_eq_true rfl, rfl⟩
theorem xs_hours_in : Cond.instanceMethod xs_hours.1 ∈ bw := bw_t (i := 397) (by decide +kernel) rfl
theorem xs_hours_se : Cond.selects xs_hours.1.cls xs_hours.1 xs_hours.1 ∈ bw := bw_t (i := 398) (by decide +kernel) rfl
def xs_loads : cMi := (⟨"SlantSheets", "loads", "(III)I"⟩, prog_1_method_19_code, 7, (some .int), 1, 3)
theorem xs_loads_ok : Mok xs_loads := ⟨plainFor_of_name pn_0, bw_t (i := 403) (by decide +kernel) rfl, bw_t (i := 1) (by decide +kernel) rfl, ⟨pm_0.1, pm_0.2, pd_15⟩, Nat.le_of_ble_eq_true rfl, rfl⟩
theorem xs_loads_in : Cond.instanceMethod xs_loads.1 ∈ bw := bw_t (i := 401) (by decide +kernel) rfl
theorem xs_loads_se : Cond.selects xs_loads.1.cls xs_loads.1 xs_loads.1 ∈ bw := bw_t (i := 402) (by decide +kernel) rfl
def xs_nearest : cMi := (⟨"SlantSheets", "nearest", "(III)I"⟩, prog_1_method_20_code, 9, (some .int), 1, 3)
theorem xs_nearest_ok : Mok xs_nearest := ⟨plainFor_of_name pn_0, bw_t (i := 407) (by decide +kernel) rfl, bw_t (i := 1) (by decide +kernel) rfl, ⟨pm_0.1, pm_0.2, pd_15⟩, Nat.le_of_ble_eq_true rfl, rfl⟩
theorem xs_nearest_in : Cond.instanceMethod xs_nearest.1 ∈ bw := bw_t (i := 405) (by decide +kernel) rfl
theorem xs_nearest_se : Cond.selects xs_nearest.1.cls xs_nearest.1 xs_nearest.1 ∈ bw := bw_t (i := 406) (by decide +kernel) rfl
def xs_fewest : cMi := (⟨"SlantSheets", "fewest", "(III)I"⟩, prog_1_method_21_code, 6, (some .int), 1, 3)
theorem xs_fewest_ok : Mok xs_fewest := ⟨plainFor_of_name pn_0, bw_t (i := 412) (by decide +kernel) rfl, bw_t (i := 1) (by decide +kernel) rfl, ⟨pm_0.1, pm_0.2, pd_15⟩, Nat.le_of_ble_eq_true rfl, rfl⟩
theorem xs_fewest_in : Cond.instanceMethod xs_fewest.1 ∈ bw := bw_t (i := 410) (by decide +kernel) rfl
theorem xs_fewest_se : Cond.selects xs_fewest.1.cls xs_fewest.1 xs_fewest.1 ∈ bw := bw_t (i := 411) (by decide +kernel) rfl
def xs_canBring : cMi := (⟨"SlantSheets", "canBring", "(LSlantSheets$Scene;IIII)Z"⟩, prog_1_method_57_code, 6, (some .boolean), 4, 5)
theorem xs_canBring_ok : Mok xs_canBring := ⟨plainFor_of_name pn_0, bw_t (i := 416) (by decide +kernel) rfl, bw_t (i := 1) (by decide +kernel) rfl, ⟨pm_0.1, pm_0.2, pd_26⟩, Nat.le_of_ble_eq_true rfl, rfl⟩
theorem xs_canBring_st : Cond.static xs_canBring.1 ∈ bw := bw_t (i := 415) (by decide +kernel) rfl
def xs_turnFor : cMi := (⟨"SlantSheets", "turnFor", "(III)I"⟩, prog_1_method_22_code, 9, (some .int), 1, 3)
theorem xs_turnFor_ok : Mok xs_turnFor := ⟨plainFor_of_name pn_0, bw_t (i := 420) (by decide +kernel) rfl, bw_t (i := 1) (by decide +kernel) rfl, ⟨pm_0.1, pm_0.2, pd_15⟩, Nat.le_of_ble_eq_true rfl, rfl⟩
theorem xs_turnFor_in : Cond.instanceMethod xs_turnFor.1 ∈ bw := bw_t (i := 418) (by decide +kernel) rfl
theorem xs_turnFor_se : Cond.selects xs_turnFor.1.cls xs_turnFor.1 xs_turnFor.1 ∈ bw := bw_t (i := 419) (by decide +kernel) rfl
def xs_spare : cMi := (⟨"SlantSheets", "spare", "(II)I"⟩, prog_1_method_23_code, 8, (some .int), 1, 2)
theorem xs_spare_ok : Mok xs_spare := ⟨plainFor_of_name pn_0, bw_t (i := 424) (by decide +kernel) rfl, bw_t (i := 1) (by decide +kernel) rfl, ⟨pm_0.1, pm_0.2, pd_12⟩, Nat.le_of_ble_eq_true rfl, rfl⟩
theorem xs_spare_in : Cond.instanceMethod xs_spare.1 ∈ bw := bw_t (i := 422) (by decide +kernel) rfl
theorem xs_spare_se : Cond.selects xs_spare.1.cls xs_spare.1 xs_spare.1 ∈ bw := bw_t (i := 423) (by decide +kernel) rfl
def xg_frontLightWithout : cMi := (⟨"SlantSheets$Scene", "frontLightWithout", "(II)I"⟩, prog_5_method_18_code, 5, (some .int), 1, 2)
theorem xg_frontLightWithout_ok : Mok xg_frontLightWithout := ⟨plainFor_of_name pn_4, bw_t (i := 428) (by decide +kernel) rfl, bw_t (i := 2) (by decide +kernel) rfl, ⟨pm_4.1, pm_4.2, pd_12⟩, Nat.le_of_ble_eq_true rfl, rfl⟩
theorem xg_frontLightWithout_in : Cond.instanceMethod xg_frontLightWithout.1 ∈ bw := bw_t (i := 426) (by decide +kernel) rfl
theorem xg_frontLightWithout_se : Cond.selects xg_frontLightWithout.1.cls xg_frontLightWithout.1 xg_frontLightWithout.1 ∈ bw := bw_t (i := 427) (by decide +kernel) rfl
def xs_look : cMi := (⟨"SlantSheets", "look", "(II)I"⟩, prog_1_method_24_code, 3, (some .int), 1, 2)
theorem xs_look_ok : Mok xs_look := ⟨plainFor_of_name pn_0, bw_t (i := 432) (by decide +kernel) rfl, bw_t (i := 1) (by decide +kernel) rfl, ⟨pm_0.1, pm_0.2, pd_12⟩, Nat.le_of_ble_eq_true rfl, rfl⟩
theorem xs_look_in : Cond.instanceMethod xs_look.1 ∈ bw := bw_t (i := 430) (by decide +kernel) rfl
theorem xs_look_se : Cond.selects xs_look.1.cls xs_look.1 xs_look.1 ∈ bw := bw_t (i := 431) (by decide +kernel) rfl
def xg_addLook : cMi := (⟨"SlantSheets$Scene", "addLook", "(II)V"⟩, prog_5_method_11_code, 3, none, 0, 2)
theorem xg_addLook_ok : Mok xg_addLook := ⟨plainFor_of_name pn_4, bw_t (i := 436) (by decide +kernel) rfl, bw_t (i := 2) (by decide +kernel) rfl, ⟨pm_4.1, pm_4.2, pd_13⟩, Nat.le_of_ble_eq_true rfl, rfl⟩
theorem xg_addLook_in : Cond.instanceMethod xg_addLook.1 ∈ bw := bw_t (i := 434) (by decide +kernel) rfl
theorem xg_addLook_se : Cond.selects xg_addLook.1.cls xg_addLook.1 xg_addLook.1 ∈ bw := bw_t (i := 435) (by decide +kernel) rfl
def xs_clear : cMi := (⟨"SlantSheets", "clear", "()I"⟩, prog_1_method_25_code, 2, (some .int), 1, 0)
theorem xs_clear_ok : Mok xs_clear := ⟨plainFor_of_name pn_0, bw_t (i := 440) (by decide +kernel) rfl, bw_t (i := 1) (by decide +kernel) rfl, ⟨pm_0.1, pm_0.2, pd_1⟩, Nat.le_of_ble_eq_true rfl, rfl⟩
theorem xs_clear_in : Cond.instanceMethod xs_clear.1 ∈ bw := bw_t (i := 438) (by decide +kernel) rfl
theorem xs_clear_se : Cond.selects xs_clear.1.cls xs_clear.1 xs_clear.1 ∈ bw := bw_t (i := 439) (by decide +kernel) rfl
def xs_orders : cMi := (⟨"SlantSheets", "orders", "(I)I"⟩, prog_1_method_26_code, 5, (some .int), 1, 1)
theorem xs_orders_ok : Mok xs_orders := ⟨plainFor_of_name pn_0, bw_t (i := 444) (by decide +kernel) rfl, bw_t (i := 1) (by decide +kernel) rfl, ⟨pm_0.1, pm_0.2, pd_8⟩, Nat.le_of_ble_eq_true rfl, rfl⟩
theorem xs_orders_in : Cond.instanceMethod xs_orders.1 ∈ bw := bw_t (i := 442) (by decide +kernel) rfl
theorem xs_orders_se : Cond.selects xs_orders.1.cls xs_orders.1 xs_orders.1 ∈ bw := bw_t (i := 443) (by decide +kernel) rfl
def xs_reckonOrderLights : cMi := (⟨"SlantSheets", "reckonOrderLights", "(I)I"⟩, prog_1_method_59_code, 4, (some .int), 1, 1)
theorem xs_reckonOrderLights_ok : Mok xs_reckonOrderLights := ⟨plainFor_of_name pn_0, bw_t (i := 448) (by decide +kernel) rfl, bw_t (i := 1) (by decide +kernel) rfl, ⟨pm_0.1, pm_0.2, pd_8⟩, Nat.le_of_ble_eq_true rfl, rfl⟩
theorem xs_reckonOrderLights_in : Cond.instanceMethod xs_reckonOrderLights.1 ∈ bw := bw_t (i := 447) (by decide +kernel) rfl
theorem xs_reckonOrderLights_se : Cond.selects xs_reckonOrderLights.1.cls xs_reckonOrderLights.1 xs_reckonOrderLights.1 ∈ bw := bw_s (i := 2) (q := (xs_reckonOrderLights.1, 14)) (by decide +kernel)
def xa_start : cMi := (⟨"SlantSheets$Arrangement", "start", "([II)V"⟩, prog_2_method_2_code, 5, none, 0, 2)
theorem xa_start_ok : Mok xa_start := ⟨plainFor_of_name pn_1, bw_t (i := 452) (by decide +kernel) rfl, bw_t (i := 6) (by decide +kernel) rfl, ⟨pm_1.1, pm_1.2, pd_32⟩, Nat.le_of_ble_eq_true rfl, rfl⟩
theorem xa_start_in : Cond.instanceMethod xa_start.1 ∈ bw := bw_t (i := 450) (by decide +kernel) rfl
theorem xa_start_se : Cond.selects xa_start.1.cls xa_start.1 xa_start.1 ∈ bw := bw_t (i := 451) (by decide +kernel) rfl
def xg_behindRow : cMi := (⟨"SlantSheets$Scene", "behindRow", "([II)I"⟩, prog_5_method_19_code, 5, (some .int), 1, 2)
theorem xg_behindRow_ok : Mok xg_behindRow := ⟨plainFor_of_name pn_4, bw_t (i := 456) (by decide +kernel) rfl, bw_t (i := 2) (by decide +kernel) rfl, ⟨pm_4.1, pm_4.2, pd_31⟩, Nat.le_of_ble_eq_true rfl, rfl⟩
theorem xg_behindRow_in : Cond.instanceMethod xg_behindRow.1 ∈ bw := bw_t (i := 454) (by decide +kernel) rfl
theorem xg_behindRow_se : Cond.selects xg_behindRow.1.cls xg_behindRow.1 xg_behindRow.1 ∈ bw := bw_t (i := 455) (by decide +kernel) rfl
def xa_advance : cMi := (⟨"SlantSheets$Arrangement", "advance", "()Z"⟩, prog_2_method_3_code, 5, (some .boolean), 4, 0)
theorem xa_advance_ok : Mok xa_advance := ⟨plainFor_of_name pn_1, bw_t (i := 460) (by decide +kernel) rfl, bw_t (i := 6) (by decide +kernel) rfl, ⟨pm_1.1, pm_1.2, pd_4⟩, Nat.le_of_ble_eq_true rfl, rfl⟩
theorem xa_advance_in : Cond.instanceMethod xa_advance.1 ∈ bw := bw_t (i := 458) (by decide +kernel) rfl
theorem xa_advance_se : Cond.selects xa_advance.1.cls xa_advance.1 xa_advance.1 ∈ bw := bw_t (i := 459) (by decide +kernel) rfl
def xa_swap : cMi := (⟨"SlantSheets$Arrangement", "swap", "(II)V"⟩, prog_2_method_4_code, 4, none, 0, 2)
theorem xa_swap_ok : Mok xa_swap := ⟨plainFor_of_name pn_1, bw_t (i := 464) (by decide +kernel) rfl, bw_t (i := 6) (by decide +kernel) rfl, ⟨pm_1.1, pm_1.2, pd_13⟩, Nat.le_of_ble_eq_true rfl, rfl⟩
theorem xa_swap_in : Cond.instanceMethod xa_swap.1 ∈ bw := bw_t (i := 463) (by decide +kernel) rfl
theorem xa_swap_se : Cond.selects xa_swap.1.cls xa_swap.1 xa_swap.1 ∈ bw := bw_s (i := 3) (q := (xa_swap.1, 2)) (by decide +kernel)
def xg_fitsLooks : cMi := (⟨"SlantSheets$Scene", "fitsLooks", "(I)Z"⟩, prog_5_method_12_code, 3, (some .boolean), 4, 1)
theorem xg_fitsLooks_ok : Mok xg_fitsLooks := ⟨plainFor_of_name pn_4, bw_t (i := 468) (by decide +kernel) rfl, bw_t (i := 2) (by decide +kernel) rfl, ⟨pm_4.1, pm_4.2, pd_11⟩, Nat.le_of_ble_eq_true rfl, rfl⟩
theorem xg_fitsLooks_in : Cond.instanceMethod xg_fitsLooks.1 ∈ bw := bw_t (i := 466) (by decide +kernel) rfl
theorem xg_fitsLooks_se : Cond.selects xg_fitsLooks.1.cls xg_fitsLooks.1 xg_fitsLooks.1 ∈ bw := bw_t (i := 467) (by decide +kernel) rfl
def xs_order : cMi := (⟨"SlantSheets", "order", "(I)I"⟩, prog_1_method_27_code, 3, (some .int), 1, 1)
theorem xs_order_ok : Mok xs_order := ⟨plainFor_of_name pn_0, bw_t (i := 473) (by decide +kernel) rfl, bw_t (i := 1) (by decide +kernel) rfl, ⟨pm_0.1, pm_0.2, pd_8⟩, Nat.le_of_ble_eq_true rfl, rfl⟩
theorem xs_order_in : Cond.instanceMethod xs_order.1 ∈ bw := bw_t (i := 471) (by decide +kernel) rfl
theorem xs_order_se : Cond.selects xs_order.1.cls xs_order.1 xs_order.1 ∈ bw := bw_t (i := 472) (by decide +kernel) rfl
def xs_apart : cMi := (⟨"SlantSheets", "apart", "(I)I"⟩, prog_1_method_28_code, 7, (some .int), 1, 1)
theorem xs_apart_ok : Mok xs_apart := ⟨plainFor_of_name pn_0, bw_t (i := 477) (by decide +kernel) rfl, bw_t (i := 1) (by decide +kernel) rfl, ⟨pm_0.1, pm_0.2, pd_8⟩, Nat.le_of_ble_eq_true rfl, rfl⟩
theorem xs_apart_in : Cond.instanceMethod xs_apart.1 ∈ bw := bw_t (i := 475) (by decide +kernel) rfl
theorem xs_apart_se : Cond.selects xs_apart.1.cls xs_apart.1 xs_apart.1 ∈ bw := bw_t (i := 476) (by decide +kernel) rfl
def xs_unlikeViews : cMi := (⟨"SlantSheets", "unlikeViews", "(II)I"⟩, prog_1_method_60_code, 6, (some .int), 1, 2)
theorem xs_unlikeViews_ok : Mok xs_unlikeViews := ⟨plainFor_of_name pn_0, bw_t (i := 482) (by decide +kernel) rfl, bw_t (i := 1) (by decide +kernel) rfl, ⟨pm_0.1, pm_0.2, pd_12⟩, Nat.le_of_ble_eq_true rfl, rfl⟩
theorem xs_unlikeViews_in : Cond.instanceMethod xs_unlikeViews.1 ∈ bw := bw_t (i := 481) (by decide +kernel) rfl
theorem xs_unlikeViews_se : Cond.selects xs_unlikeViews.1.cls xs_unlikeViews.1 xs_unlikeViews.1 ∈ bw := bw_s (i := 4) (q := (xs_unlikeViews.1, 14)) (by decide +kernel)
def xs_pairs : cMi := (⟨"SlantSheets", "pairs", "(II)I"⟩, prog_1_method_29_code, 5, (some .int), 1, 2)
theorem xs_pairs_ok : Mok xs_pairs := ⟨plainFor_of_name pn_0, bw_t (i := 486) (by decide +kernel) rfl, bw_t (i := 1) (by decide +kernel) rfl, ⟨pm_0.1, pm_0.2, pd_12⟩, Nat.le_of_ble_eq_true rfl, rfl⟩
theorem xs_pairs_in : Cond.instanceMethod xs_pairs.1 ∈ bw := bw_t (i := 484) (by decide +kernel) rfl
theorem xs_pairs_se : Cond.selects xs_pairs.1.cls xs_pairs.1 xs_pairs.1 ∈ bw := bw_t (i := 485) (by decide +kernel) rfl
def xs_reckonPartners : cMi := (⟨"SlantSheets", "reckonPartners", "(II)V"⟩, prog_1_method_62_code, 7, none, 0, 2)
theorem xs_reckonPartners_ok : Mok xs_reckonPartners := ⟨plainFor_of_name pn_0, bw_t (i := 490) (by decide +kernel) rfl, bw_t (i := 1) (by decide +kernel) rfl, ⟨pm_0.1, pm_0.2, pd_13⟩, Nat.le_of_ble_eq_true rfl, rfl⟩
theorem xs_reckonPartners_in : Cond.instanceMethod xs_reckonPartners.1 ∈ bw := bw_t (i := 489) (by decide +kernel) rfl
theorem xs_reckonPartners_se : Cond.selects xs_reckonPartners.1.cls xs_reckonPartners.1 xs_reckonPartners.1 ∈ bw := bw_s (i := 5) (q := (xs_reckonPartners.1, 14)) (by decide +kernel)
def xs_reckonSoleLights : cMi := (⟨"SlantSheets", "reckonSoleLights", "()V"⟩, prog_1_method_61_code, 3, none, 0, 0)
theorem xs_reckonSoleLights_ok : Mok xs_reckonSoleLights := ⟨plainFor_of_name pn_0, bw_t (i := 494) (by decide +kernel) rfl, bw_t (i := 1) (by decide +kernel) rfl, ⟨pm_0.1, pm_0.2, pd_3⟩, Nat.le_of_ble_eq_true rfl, rfl⟩
theorem xs_reckonSoleLights_in : Cond.instanceMethod xs_reckonSoleLights.1 ∈ bw := bw_t (i := 493) (by decide +kernel) rfl
theorem xs_reckonSoleLights_se : Cond.selects xs_reckonSoleLights.1.cls xs_reckonSoleLights.1 xs_reckonSoleLights.1 ∈ bw := bw_s (i := 6) (q := (xs_reckonSoleLights.1, 14)) (by decide +kernel)
def xj_Integer_bitCount : cMi := (⟨"java/lang/Integer", "bitCount", "(I)I"⟩, prog_10_method_49_code, 1, (some .int), 1, 1)
theorem xj_Integer_bitCount_ok : Mok xj_Integer_bitCount := ⟨plainFor_of_name pn_9, bw_t (i := 497) (by decide +kernel) rfl, bw_t (i := 12) (by decide +kernel) rfl, ⟨pm_9.1, pm_9.2, pd_8⟩, Nat.le_of_ble_eq_true rfl, rfl⟩
theorem xj_Integer_bitCount_st : Cond.static xj_Integer_bitCount.1 ∈ bw := bw_t (i := 496) (by decide +kernel) rfl
def xs_signs : cMi := (⟨"SlantSheets", "signs", "(II)I"⟩, prog_1_method_30_code, 5, (some .int), 1, 2)
theorem xs_signs_ok : Mok xs_signs := ⟨plainFor_of_name pn_0, bw_t (i := 504) (by decide +kernel) rfl, bw_t (i := 1) (by decide +kernel) rfl, ⟨pm_0.1, pm_0.2, pd_12⟩, Nat.le_of_ble_eq_true rfl, rfl⟩
theorem xs_signs_in : Cond.instanceMethod xs_signs.1 ∈ bw := bw_t (i := 502) (by decide +kernel) rfl
theorem xs_signs_se : Cond.selects xs_signs.1.cls xs_signs.1 xs_signs.1 ∈ bw := bw_t (i := 503) (by decide +kernel) rfl
def xs_areAllPartners : cMi := (⟨"SlantSheets", "areAllPartners", "(I)Z"⟩, prog_1_method_63_code, 4, (some .boolean), 4, 1)
theorem xs_areAllPartners_ok : Mok xs_areAllPartners := ⟨plainFor_of_name pn_0, bw_t (i := 508) (by decide +kernel) rfl, bw_t (i := 1) (by decide +kernel) rfl, ⟨pm_0.1, pm_0.2, pd_11⟩, Nat.le_of_ble_eq_true rfl, rfl⟩
theorem xs_areAllPartners_in : Cond.instanceMethod xs_areAllPartners.1 ∈ bw := bw_t (i := 507) (by decide +kernel) rfl
theorem xs_areAllPartners_se : Cond.selects xs_areAllPartners.1.cls xs_areAllPartners.1 xs_areAllPartners.1 ∈ bw := bw_s (i := 7) (q := (xs_areAllPartners.1, 14)) (by decide +kernel)
def xs_eyes : cMi := (⟨"SlantSheets", "eyes", "(I)I"⟩, prog_1_method_31_code, 6, (some .int), 1, 1)
theorem xs_eyes_ok : Mok xs_eyes := ⟨plainFor_of_name pn_0, bw_t (i := 512) (by decide +kernel) rfl, bw_t (i := 1) (by decide +kernel) rfl, ⟨pm_0.1, pm_0.2, pd_8⟩, Nat.le_of_ble_eq_true rfl, rfl⟩
theorem xs_eyes_in : Cond.instanceMethod xs_eyes.1 ∈ bw := bw_t (i := 510) (by decide +kernel) rfl
theorem xs_eyes_se : Cond.selects xs_eyes.1.cls xs_eyes.1 xs_eyes.1 ∈ bw := bw_t (i := 511) (by decide +kernel) rfl
def xs_reckonTellingTilts : cMi := (⟨"SlantSheets", "reckonTellingTilts", "(I)I"⟩, prog_1_method_64_code, 5, (some .int), 1, 1)
theorem xs_reckonTellingTilts_ok : Mok xs_reckonTellingTilts := ⟨plainFor_of_name pn_0, bw_t (i := 516) (by decide +kernel) rfl, bw_t (i := 1) (by decide +kernel) rfl, ⟨pm_0.1, pm_0.2, pd_8⟩, Nat.le_of_ble_eq_true rfl, rfl⟩
theorem xs_reckonTellingTilts_in : Cond.instanceMethod xs_reckonTellingTilts.1 ∈ bw := bw_t (i := 515) (by decide +kernel) rfl
theorem xs_reckonTellingTilts_se : Cond.selects xs_reckonTellingTilts.1.cls xs_reckonTellingTilts.1 xs_reckonTellingTilts.1 ∈ bw := bw_s (i := 8) (q := (xs_reckonTellingTilts.1, 14)) (by decide +kernel)
def xs_tellsAll : cMi := (⟨"SlantSheets", "tellsAll", "(II)Z"⟩, prog_1_method_65_code, 4, (some .boolean), 4, 2)
theorem xs_tellsAll_ok : Mok xs_tellsAll := ⟨plainFor_of_name pn_0, bw_t (i := 520) (by decide +kernel) rfl, bw_t (i := 1) (by decide +kernel) rfl, ⟨pm_0.1, pm_0.2, pd_14⟩, Nat.le_of_ble_eq_true rfl, rfl⟩
theorem xs_tellsAll_in : Cond.instanceMethod xs_tellsAll.1 ∈ bw := bw_t (i := 519) (by decide +kernel) rfl
theorem xs_tellsAll_se : Cond.selects xs_tellsAll.1.cls xs_tellsAll.1 xs_tellsAll.1 ∈ bw := bw_s (i := 9) (q := (xs_tellsAll.1, 14)) (by decide +kernel)
def xs_years : cMi := (⟨"SlantSheets", "years", "(I)I"⟩, prog_1_method_32_code, 4, (some .int), 1, 1)
theorem xs_years_ok : Mok xs_years := ⟨plainFor_of_name pn_0, bw_t (i := 524) (by decide +kernel) rfl, bw_t (i := 1) (by decide +kernel) rfl, ⟨pm_0.1, pm_0.2, pd_8⟩, Nat.le_of_ble_eq_true rfl, rfl⟩
theorem xs_years_in : Cond.instanceMethod xs_years.1 ∈ bw := bw_t (i := 522) (by decide +kernel) rfl
theorem xs_years_se : Cond.selects xs_years.1.cls xs_years.1 xs_years.1 ∈ bw := bw_t (i := 523) (by decide +kernel) rfl
def xj_Math_max : cMi := (⟨"java/lang/Math", "max", "(II)I"⟩, prog_11_method_65_code, 2, (some .int), 1, 2)
theorem xj_Math_max_ok : Mok xj_Math_max := ⟨by decide +kernel, bw_t (i := 527) (by decide +kernel) rfl, bw_t (i := 11) (by decide +kernel) rfl, ⟨pm_10.1, pm_10.2, pd_12⟩, Nat.le_of_ble_eq_true rfl, rfl⟩
theorem xj_Math_max_st : Cond.static xj_Math_max.1 ∈ bw := bw_t (i := 526) (by decide +kernel) rfl
def xg_draw : cMi := (⟨"SlantSheets$Scene", "draw", "()I"⟩, prog_5_method_13_code, 1, (some .int), 1, 0)
theorem xg_draw_ok : Mok xg_draw := ⟨plainFor_of_name pn_4, bw_t (i := 531) (by decide +kernel) rfl, bw_t (i := 2) (by decide +kernel) rfl, ⟨pm_4.1, pm_4.2, pd_1⟩, Nat.le_of_ble_eq_true rfl, rfl⟩
theorem xg_draw_in : Cond.instanceMethod xg_draw.1 ∈ bw := bw_t (i := 529) (by decide +kernel) rfl
theorem xg_draw_se : Cond.selects xg_draw.1.cls xg_draw.1 xg_draw.1 ∈ bw := bw_t (i := 530) (by decide +kernel) rfl
def xs_drawn : cMi := (⟨"SlantSheets", "drawn", "(II)I"⟩, prog_1_method_33_code, 4, (some .int), 1, 2)
theorem xs_drawn_ok : Mok xs_drawn := ⟨plainFor_of_name pn_0, bw_t (i := 536) (by decide +kernel) rfl, bw_t (i := 1) (by decide +kernel) rfl, ⟨pm_0.1, pm_0.2, pd_12⟩, Nat.le_of_ble_eq_true rfl, rfl⟩
theorem xs_drawn_in : Cond.instanceMethod xs_drawn.1 ∈ bw := bw_t (i := 534) (by decide +kernel) rfl
theorem xs_drawn_se : Cond.selects xs_drawn.1.cls xs_drawn.1 xs_drawn.1 ∈ bw := bw_t (i := 535) (by decide +kernel) rfl
def xs_seed : cMi := (⟨"SlantSheets", "seed", "(I)I"⟩, prog_1_method_34_code, 3, (some .int), 1, 1)
theorem xs_seed_ok : Mok xs_seed := ⟨plainFor_of_name pn_0, bw_t (i := 541) (by decide +kernel) rfl, bw_t (i := 1) (by decide +kernel) rfl, ⟨pm_0.1, pm_0.2, pd_8⟩, Nat.le_of_ble_eq_true rfl, rfl⟩
theorem xs_seed_in : Cond.instanceMethod xs_seed.1 ∈ bw := bw_t (i := 539) (by decide +kernel) rfl
theorem xs_seed_se : Cond.selects xs_seed.1.cls xs_seed.1 xs_seed.1 ∈ bw := bw_t (i := 540) (by decide +kernel) rfl
def xs_feed : cMi := (⟨"SlantSheets", "feed", "(II)I"⟩, prog_1_method_35_code, 4, (some .int), 1, 2)
theorem xs_feed_ok : Mok xs_feed := ⟨plainFor_of_name pn_0, bw_t (i := 545) (by decide +kernel) rfl, bw_t (i := 1) (by decide +kernel) rfl, ⟨pm_0.1, pm_0.2, pd_12⟩, Nat.le_of_ble_eq_true rfl, rfl⟩
theorem xs_feed_in : Cond.instanceMethod xs_feed.1 ∈ bw := bw_t (i := 543) (by decide +kernel) rfl
theorem xs_feed_se : Cond.selects xs_feed.1.cls xs_feed.1 xs_feed.1 ∈ bw := bw_t (i := 544) (by decide +kernel) rfl
def xt_add : cMi := (⟨"SlantSheets$Tape", "add", "(B)V"⟩, prog_6_method_2_code, 2, none, 0, 1)
theorem xt_add_ok : Mok xt_add := ⟨plainFor_of_name pn_5, bw_t (i := 549) (by decide +kernel) rfl, bw_t (i := 4) (by decide +kernel) rfl, ⟨pm_5.1, pm_5.2, pd_6⟩, Nat.le_of_ble_eq_true rfl, rfl⟩
theorem xt_add_in : Cond.instanceMethod xt_add.1 ∈ bw := bw_t (i := 547) (by decide +kernel) rfl
theorem xt_add_se : Cond.selects xt_add.1.cls xt_add.1 xt_add.1 ∈ bw := bw_t (i := 548) (by decide +kernel) rfl
def xs_wipe : cMi := (⟨"SlantSheets", "wipe", "()I"⟩, prog_1_method_36_code, 2, (some .int), 1, 0)
theorem xs_wipe_ok : Mok xs_wipe := ⟨plainFor_of_name pn_0, bw_t (i := 553) (by decide +kernel) rfl, bw_t (i := 1) (by decide +kernel) rfl, ⟨pm_0.1, pm_0.2, pd_1⟩, Nat.le_of_ble_eq_true rfl, rfl⟩
theorem xs_wipe_in : Cond.instanceMethod xs_wipe.1 ∈ bw := bw_t (i := 551) (by decide +kernel) rfl
theorem xs_wipe_se : Cond.selects xs_wipe.1.cls xs_wipe.1 xs_wipe.1 ∈ bw := bw_t (i := 552) (by decide +kernel) rfl
def xs_text : cMi := (⟨"SlantSheets", "text", "()I"⟩, prog_1_method_37_code, 2, (some .int), 1, 0)
theorem xs_text_ok : Mok xs_text := ⟨plainFor_of_name pn_0, bw_t (i := 557) (by decide +kernel) rfl, bw_t (i := 1) (by decide +kernel) rfl, ⟨pm_0.1, pm_0.2, pd_1⟩, Nat.le_of_ble_eq_true rfl, rfl⟩
theorem xs_text_in : Cond.instanceMethod xs_text.1 ∈ bw := bw_t (i := 555) (by decide +kernel) rfl
theorem xs_text_se : Cond.selects xs_text.1.cls xs_text.1 xs_text.1 ∈ bw := bw_t (i := 556) (by decide +kernel) rfl
def xg_become : cMi := (⟨"SlantSheets$Scene", "become", "(LSlantSheets$Scene;)V"⟩, prog_5_method_2_code, 3, none, 0, 1)
theorem xg_become_ok : Mok xg_become := ⟨plainFor_of_name pn_4, bw_t (i := 561) (by decide +kernel) rfl, bw_t (i := 2) (by decide +kernel) rfl, ⟨pm_4.1, pm_4.2, pd_25⟩, Nat.le_of_ble_eq_true rfl, rfl⟩
theorem xg_become_in : Cond.instanceMethod xg_become.1 ∈ bw := bw_t (i := 559) (by decide +kernel) rfl
theorem xg_become_se : Cond.selects xg_become.1.cls xg_become.1 xg_become.1 ∈ bw := bw_t (i := 560) (by decide +kernel) rfl
def xq_items : cMi := (⟨"SlantSheets$TextReader", "items", "()I"⟩, prog_7_method_2_code, 2, (some .int), 1, 0)
theorem xq_items_ok : Mok xq_items := ⟨plainFor_of_name pn_6, bw_t (i := 566) (by decide +kernel) rfl, bw_t (i := 5) (by decide +kernel) rfl, ⟨pm_6.1, pm_6.2, pd_1⟩, Nat.le_of_ble_eq_true rfl, rfl⟩
theorem xq_items_in : Cond.instanceMethod xq_items.1 ∈ bw := bw_t (i := 564) (by decide +kernel) rfl
theorem xq_items_se : Cond.selects xq_items.1.cls xq_items.1 xq_items.1 ∈ bw := bw_t (i := 565) (by decide +kernel) rfl
def xq_next : cMi := (⟨"SlantSheets$TextReader", "next", "()V"⟩, prog_7_method_14_code, 1, none, 0, 0)
theorem xq_next_ok : Mok xq_next := ⟨plainFor_of_name pn_6, bw_t (i := 570) (by decide +kernel) rfl, bw_t (i := 5) (by decide +kernel) rfl, ⟨pm_6.1, pm_6.2, pd_3⟩, Nat.le_of_ble_eq_true rfl, rfl⟩
theorem xq_next_in : Cond.instanceMethod xq_next.1 ∈ bw := bw_t (i := 569) (by decide +kernel) rfl
theorem xq_next_se : Cond.selects xq_next.1.cls xq_next.1 xq_next.1 ∈ bw := bw_s (i := 10) (q := (xq_next.1, 6)) (by decide +kernel)
def xq_typeOf : cMi := (⟨"SlantSheets$TextReader", "typeOf", "(B)I"⟩, prog_7_method_15_code, 1, (some .int), 1, 1)
theorem xq_typeOf_ok : Mok xq_typeOf := ⟨plainFor_of_name pn_6, bw_t (i := 573) (by decide +kernel) rfl, bw_t (i := 5) (by decide +kernel) rfl, ⟨pm_6.1, pm_6.2, pd_5⟩, Nat.le_of_ble_eq_true rfl, rfl⟩
theorem xq_typeOf_st : Cond.static xq_typeOf.1 ∈ bw := bw_t (i := 572) (by decide +kernel) rfl
def xq_item : cMi := (⟨"SlantSheets$TextReader", "item", "()Z"⟩, prog_7_method_3_code, 1, (some .boolean), 4, 0)
theorem xq_item_ok : Mok xq_item := ⟨plainFor_of_name pn_6, bw_t (i := 577) (by decide +kernel) rfl, bw_t (i := 5) (by decide +kernel) rfl, ⟨pm_6.1, pm_6.2, pd_4⟩, Nat.le_of_ble_eq_true rfl, rfl⟩
theorem xq_item_in : Cond.instanceMethod xq_item.1 ∈ bw := bw_t (i := 576) (by decide +kernel) rfl
theorem xq_item_se : Cond.selects xq_item.1.cls xq_item.1 xq_item.1 ∈ bw := bw_s (i := 11) (q := (xq_item.1, 6)) (by decide +kernel)
def xq_takeWord : cMi := (⟨"SlantSheets$TextReader", "takeWord", "(Ljava/lang/String;)Z"⟩, prog_7_method_11_code, 2, (some .boolean), 4, 1)
theorem xq_takeWord_ok : Mok xq_takeWord := ⟨plainFor_of_name pn_6, bw_t (i := 582) (by decide +kernel) rfl, bw_t (i := 5) (by decide +kernel) rfl, ⟨pm_6.1, pm_6.2, pd_27⟩, Nat.le_of_ble_eq_true rfl, rfl⟩
theorem xq_takeWord_in : Cond.instanceMethod xq_takeWord.1 ∈ bw := bw_t (i := 581) (by decide +kernel) rfl
theorem xq_takeWord_se : Cond.selects xq_takeWord.1.cls xq_takeWord.1 xq_takeWord.1 ∈ bw := bw_s (i := 12) (q := (xq_takeWord.1, 6)) (by decide +kernel)
def xq_isWord : cMi := (⟨"SlantSheets$TextReader", "isWord", "(Ljava/lang/String;)Z"⟩, prog_7_method_10_code, 3, (some .boolean), 4, 1)
theorem xq_isWord_ok : Mok xq_isWord := ⟨plainFor_of_name pn_6, bw_t (i := 586) (by decide +kernel) rfl, bw_t (i := 5) (by decide +kernel) rfl, ⟨pm_6.1, pm_6.2, pd_27⟩, Nat.le_of_ble_eq_true rfl, rfl⟩
theorem xq_isWord_in : Cond.instanceMethod xq_isWord.1 ∈ bw := bw_t (i := 585) (by decide +kernel) rfl
theorem xq_isWord_se : Cond.selects xq_isWord.1.cls xq_isWord.1 xq_isWord.1 ∈ bw := bw_s (i := 13) (q := (xq_isWord.1, 6)) (by decide +kernel)
def xj_String_length : cMi := (⟨"java/lang/String", "length", "()I"⟩, prog_12_method_54_code, 1, (some .int), 1, 0)
theorem xj_String_length_ok : Mok xj_String_length := ⟨plainFor_of_name pn_11, bw_t (i := 590) (by decide +kernel) rfl, bw_t (i := 13) (by decide +kernel) rfl, ⟨pm_11.1, pm_11.2, pd_1⟩, Nat.le_of_ble_eq_true rfl, rfl⟩
theorem xj_String_length_in : Cond.instanceMethod xj_String_length.1 ∈ bw := bw_t (i := 588) (by decide +kernel) rfl
theorem xj_String_length_se : Cond.selects xj_String_length.1.cls xj_String_length.1 xj_String_length.1 ∈ bw := bw_t (i := 589) (by decide +kernel) rfl
def xj_String_coder : cMi := (⟨"java/lang/String", "coder", "()B"⟩, prog_12_method_152_code, 1, (some .byte), 5, 0)
theorem xj_String_coder_ok : Mok xj_String_coder := ⟨plainFor_of_name pn_11, bw_t (i := 594) (by decide +kernel) rfl, bw_t (i := 13) (by decide +kernel) rfl, ⟨pm_11.1, pm_11.2, pd_0⟩, Nat.le_of_ble_eq_true rfl, rfl⟩
theorem xj_String_coder_in : Cond.instanceMethod xj_String_coder.1 ∈ bw := bw_t (i := 592) (by decide +kernel) rfl
theorem xj_String_coder_se : Cond.selects xj_String_coder.1.cls xj_String_coder.1 xj_String_coder.1 ∈ bw := bw_t (i := 593) (by decide +kernel) rfl
def xj_String_charAt : cMi := (⟨"java/lang/String", "charAt", "(I)C"⟩, prog_12_method_56_code, 2, (some .char), 6, 1)
theorem xj_String_charAt_ok : Mok xj_String_charAt := ⟨plainFor_of_name pn_11, bw_t (i := 600) (by decide +kernel) rfl, bw_t (i := 13) (by decide +kernel) rfl, ⟨pm_11.1, pm_11.2, pd_7⟩, Nat.le_of_ble_eq_true rfl, rfl⟩
theorem xj_String_charAt_in : Cond.instanceMethod xj_String_charAt.1 ∈ bw := bw_t (i := 598) (by decide +kernel) rfl
theorem xj_String_charAt_se : Cond.selects xj_String_charAt.1.cls xj_String_charAt.1 xj_String_charAt.1 ∈ bw := bw_t (i := 599) (by decide +kernel) rfl
def xj_String_isLatin1 : cMi := (⟨"java/lang/String", "isLatin1", "()Z"⟩, prog_12_method_154_code, 1, (some .boolean), 4, 0)
theorem xj_String_isLatin1_ok : Mok xj_String_isLatin1 := ⟨plainFor_of_name pn_11, bw_t (i := 604) (by decide +kernel) rfl, bw_t (i := 13) (by decide +kernel) rfl, ⟨pm_11.1, pm_11.2, pd_4⟩, Nat.le_of_ble_eq_true rfl, rfl⟩
theorem xj_String_isLatin1_in : Cond.instanceMethod xj_String_isLatin1.1 ∈ bw := bw_t (i := 602) (by decide +kernel) rfl
theorem xj_String_isLatin1_se : Cond.selects xj_String_isLatin1.1.cls xj_String_isLatin1.1 xj_String_isLatin1.1 ∈ bw := bw_t (i := 603) (by decide +kernel) rfl
def xj_StringLatin1_charAt : cMi := (⟨"java/lang/StringLatin1", "charAt", "([BI)C"⟩, prog_13_method_2_code, 2, (some .char), 6, 2)
theorem xj_StringLatin1_charAt_ok : Mok xj_StringLatin1_charAt := ⟨plainFor_of_name pn_12, bw_t (i := 607) (by decide +kernel) rfl, bw_t (i := 14) (by decide +kernel) rfl, ⟨pm_12.1, pm_12.2, pd_29⟩, Nat.le_of_ble_eq_true rfl, rfl⟩
theorem xj_StringLatin1_charAt_st : Cond.static xj_StringLatin1_charAt.1 ∈ bw := bw_t (i := 606) (by decide +kernel) rfl
def xj_String_checkIndex : cMi := (⟨"java/lang/String", "checkIndex", "(II)V"⟩, prog_12_method_155_code, 2, none, 0, 2)
theorem xj_String_checkIndex_ok : Mok xj_String_checkIndex := ⟨plainFor_of_name pn_11, bw_t (i := 610) (by decide +kernel) rfl, bw_t (i := 13) (by decide +kernel) rfl, ⟨pm_11.1, pm_11.2, pd_13⟩, Nat.le_of_ble_eq_true rfl, rfl⟩
theorem xj_String_checkIndex_st : Cond.static xj_String_checkIndex.1 ∈ bw := bw_t (i := 609) (by decide +kernel) rfl
def xj_Preconditions_checkIndex : cMi := (⟨"jdk/internal/util/Preconditions", "checkIndex", "(IILjava/util/function/BiFunction;)I"⟩, prog_17_method_11_code, 3, (some .int), 1, 3)
theorem xj_Preconditions_checkIndex_ok : Mok xj_Preconditions_checkIndex := ⟨plainFor_of_name pn_14, bw_t (i := 615) (by decide +kernel) rfl, bw_t (i := 15) (by decide +kernel) rfl, ⟨pm_14.1, pm_14.2, pd_19⟩, Nat.le_of_ble_eq_true rfl, rfl⟩
theorem xj_Preconditions_checkIndex_st : Cond.static xj_Preconditions_checkIndex.1 ∈ bw := bw_t (i := 614) (by decide +kernel) rfl
def xq_stackItem : cMi := (⟨"SlantSheets$TextReader", "stackItem", "()Z"⟩, prog_7_method_5_code, 5, (some .boolean), 4, 0)
theorem xq_stackItem_ok : Mok xq_stackItem := ⟨plainFor_of_name pn_6, bw_t (i := 638) (by decide +kernel) rfl, bw_t (i := 5) (by decide +kernel) rfl, ⟨pm_6.1, pm_6.2, pd_4⟩, Nat.le_of_ble_eq_true rfl, rfl⟩
theorem xq_stackItem_in : Cond.instanceMethod xq_stackItem.1 ∈ bw := bw_t (i := 637) (by decide +kernel) rfl
theorem xq_stackItem_se : Cond.selects xq_stackItem.1.cls xq_stackItem.1 xq_stackItem.1 ∈ bw := bw_s (i := 14) (q := (xq_stackItem.1, 6)) (by decide +kernel)
def xq_takeNumber : cMi := (⟨"SlantSheets$TextReader", "takeNumber", "(I)I"⟩, prog_7_method_12_code, 3, (some .int), 1, 1)
theorem xq_takeNumber_ok : Mok xq_takeNumber := ⟨plainFor_of_name pn_6, bw_t (i := 642) (by decide +kernel) rfl, bw_t (i := 5) (by decide +kernel) rfl, ⟨pm_6.1, pm_6.2, pd_8⟩, Nat.le_of_ble_eq_true rfl, rfl⟩
theorem xq_takeNumber_in : Cond.instanceMethod xq_takeNumber.1 ∈ bw := bw_t (i := 641) (by decide +kernel) rfl
theorem xq_takeNumber_se : Cond.selects xq_takeNumber.1.cls xq_takeNumber.1 xq_takeNumber.1 ∈ bw := bw_s (i := 15) (q := (xq_takeNumber.1, 6)) (by decide +kernel)
def xq_numberAtHand : cMi := (⟨"SlantSheets$TextReader", "numberAtHand", "()I"⟩, prog_7_method_13_code, 3, (some .int), 1, 0)
theorem xq_numberAtHand_ok : Mok xq_numberAtHand := ⟨plainFor_of_name pn_6, bw_t (i := 646) (by decide +kernel) rfl, bw_t (i := 5) (by decide +kernel) rfl, ⟨pm_6.1, pm_6.2, pd_1⟩, Nat.le_of_ble_eq_true rfl, rfl⟩
theorem xq_numberAtHand_in : Cond.instanceMethod xq_numberAtHand.1 ∈ bw := bw_t (i := 645) (by decide +kernel) rfl
theorem xq_numberAtHand_se : Cond.selects xq_numberAtHand.1.cls xq_numberAtHand.1 xq_numberAtHand.1 ∈ bw := bw_s (i := 16) (q := (xq_numberAtHand.1, 6)) (by decide +kernel)
def xj_Math_min : cMi := (⟨"java/lang/Math", "min", "(II)I"⟩, prog_11_method_69_code, 2, (some .int), 1, 2)
theorem xj_Math_min_ok : Mok xj_Math_min := ⟨by decide +kernel, bw_t (i := 649) (by decide +kernel) rfl, bw_t (i := 11) (by decide +kernel) rfl, ⟨pm_10.1, pm_10.2, pd_12⟩, Nat.le_of_ble_eq_true rfl, rfl⟩
theorem xj_Math_min_st : Cond.static xj_Math_min.1 ∈ bw := bw_t (i := 648) (by decide +kernel) rfl
def xq_lampItem : cMi := (⟨"SlantSheets$TextReader", "lampItem", "()Z"⟩, prog_7_method_6_code, 3, (some .boolean), 4, 0)
theorem xq_lampItem_ok : Mok xq_lampItem := ⟨plainFor_of_name pn_6, bw_t (i := 655) (by decide +kernel) rfl, bw_t (i := 5) (by decide +kernel) rfl, ⟨pm_6.1, pm_6.2, pd_4⟩, Nat.le_of_ble_eq_true rfl, rfl⟩
theorem xq_lampItem_in : Cond.instanceMethod xq_lampItem.1 ∈ bw := bw_t (i := 654) (by decide +kernel) rfl
theorem xq_lampItem_se : Cond.selects xq_lampItem.1.cls xq_lampItem.1 xq_lampItem.1 ∈ bw := bw_s (i := 17) (q := (xq_lampItem.1, 6)) (by decide +kernel)
def xq_loadItem : cMi := (⟨"SlantSheets$TextReader", "loadItem", "()Z"⟩, prog_7_method_7_code, 2, (some .boolean), 4, 0)
theorem xq_loadItem_ok : Mok xq_loadItem := ⟨plainFor_of_name pn_6, bw_t (i := 662) (by decide +kernel) rfl, bw_t (i := 5) (by decide +kernel) rfl, ⟨pm_6.1, pm_6.2, pd_4⟩, Nat.le_of_ble_eq_true rfl, rfl⟩
theorem xq_loadItem_in : Cond.instanceMethod xq_loadItem.1 ∈ bw := bw_t (i := 661) (by decide +kernel) rfl
theorem xq_loadItem_se : Cond.selects xq_loadItem.1.cls xq_loadItem.1 xq_loadItem.1 ∈ bw := bw_s (i := 18) (q := (xq_loadItem.1, 6)) (by decide +kernel)
def xq_sheetItem : cMi := (⟨"SlantSheets$TextReader", "sheetItem", "()Z"⟩, prog_7_method_4_code, 4, (some .boolean), 4, 0)
theorem xq_sheetItem_ok : Mok xq_sheetItem := ⟨plainFor_of_name pn_6, bw_t (i := 666) (by decide +kernel) rfl, bw_t (i := 5) (by decide +kernel) rfl, ⟨pm_6.1, pm_6.2, pd_4⟩, Nat.le_of_ble_eq_true rfl, rfl⟩
theorem xq_sheetItem_in : Cond.instanceMethod xq_sheetItem.1 ∈ bw := bw_t (i := 665) (by decide +kernel) rfl
theorem xq_sheetItem_se : Cond.selects xq_sheetItem.1.cls xq_sheetItem.1 xq_sheetItem.1 ∈ bw := bw_s (i := 19) (q := (xq_sheetItem.1, 6)) (by decide +kernel)
def xq_kindAtHand : cMi := (⟨"SlantSheets$TextReader", "kindAtHand", "()I"⟩, prog_7_method_8_code, 2, (some .int), 1, 0)
theorem xq_kindAtHand_ok : Mok xq_kindAtHand := ⟨plainFor_of_name pn_6, bw_t (i := 670) (by decide +kernel) rfl, bw_t (i := 5) (by decide +kernel) rfl, ⟨pm_6.1, pm_6.2, pd_1⟩, Nat.le_of_ble_eq_true rfl, rfl⟩
theorem xq_kindAtHand_in : Cond.instanceMethod xq_kindAtHand.1 ∈ bw := bw_t (i := 669) (by decide +kernel) rfl
theorem xq_kindAtHand_se : Cond.selects xq_kindAtHand.1.cls xq_kindAtHand.1 xq_kindAtHand.1 ∈ bw := bw_s (i := 20) (q := (xq_kindAtHand.1, 6)) (by decide +kernel)
def xq_wordOf : cMi := (⟨"SlantSheets$TextReader", "wordOf", "(I)Ljava/lang/String;"⟩, prog_7_method_9_code, 1, (some (.object "java/lang/String")), 3, 1)
theorem xq_wordOf_ok : Mok xq_wordOf := ⟨plainFor_of_name pn_6, bw_t (i := 673) (by decide +kernel) rfl, bw_t (i := 5) (by decide +kernel) rfl, ⟨pm_6.1, pm_6.2, pd_9⟩, Nat.le_of_ble_eq_true rfl, rfl⟩
theorem xq_wordOf_st : Cond.static xq_wordOf.1 ∈ bw := bw_t (i := 672) (by decide +kernel) rfl
def xs_hold : cMi := (⟨"SlantSheets", "hold", "(II)I"⟩, prog_1_method_38_code, 3, (some .int), 1, 2)
theorem xs_hold_ok : Mok xs_hold := ⟨plainFor_of_name pn_0, bw_t (i := 687) (by decide +kernel) rfl, bw_t (i := 1) (by decide +kernel) rfl, ⟨pm_0.1, pm_0.2, pd_12⟩, Nat.le_of_ble_eq_true rfl, rfl⟩
theorem xs_hold_in : Cond.instanceMethod xs_hold.1 ∈ bw := bw_t (i := 685) (by decide +kernel) rfl
theorem xs_hold_se : Cond.selects xs_hold.1.cls xs_hold.1 xs_hold.1 ∈ bw := bw_t (i := 686) (by decide +kernel) rfl
def xs_as : cMi := (⟨"SlantSheets", "as", "(II)I"⟩, prog_1_method_39_code, 4, (some .int), 1, 2)
theorem xs_as_ok : Mok xs_as := ⟨plainFor_of_name pn_0, bw_t (i := 691) (by decide +kernel) rfl, bw_t (i := 1) (by decide +kernel) rfl, ⟨pm_0.1, pm_0.2, pd_12⟩, Nat.le_of_ble_eq_true rfl, rfl⟩
theorem xs_as_in : Cond.instanceMethod xs_as.1 ∈ bw := bw_t (i := 689) (by decide +kernel) rfl
theorem xs_as_se : Cond.selects xs_as.1.cls xs_as.1 xs_as.1 ∈ bw := bw_t (i := 690) (by decide +kernel) rfl
def xs_isUnder : cMi := (⟨"SlantSheets", "isUnder", "(II)Z"⟩, prog_1_method_56_code, 4, (some .boolean), 4, 2)
theorem xs_isUnder_ok : Mok xs_isUnder := ⟨plainFor_of_name pn_0, bw_t (i := 695) (by decide +kernel) rfl, bw_t (i := 1) (by decide +kernel) rfl, ⟨pm_0.1, pm_0.2, pd_14⟩, Nat.le_of_ble_eq_true rfl, rfl⟩
theorem xs_isUnder_st : Cond.static xs_isUnder.1 ∈ bw := bw_t (i := 694) (by decide +kernel) rfl
def xs_row : cMi := (⟨"SlantSheets", "row", "(III)I"⟩, prog_1_method_40_code, 4, (some .int), 1, 3)
theorem xs_row_ok : Mok xs_row := ⟨plainFor_of_name pn_0, bw_t (i := 702) (by decide +kernel) rfl, bw_t (i := 1) (by decide +kernel) rfl, ⟨pm_0.1, pm_0.2, pd_15⟩, Nat.le_of_ble_eq_true rfl, rfl⟩
theorem xs_row_in : Cond.instanceMethod xs_row.1 ∈ bw := bw_t (i := 700) (by decide +kernel) rfl
theorem xs_row_se : Cond.selects xs_row.1.cls xs_row.1 xs_row.1 ∈ bw := bw_t (i := 701) (by decide +kernel) rfl
def xr_become : cMi := (⟨"SlantSheets$Row", "become", "(II)V"⟩, prog_4_method_3_code, 3, none, 0, 2)
theorem xr_become_ok : Mok xr_become := ⟨plainFor_of_name pn_3, bw_t (i := 706) (by decide +kernel) rfl, bw_t (i := 7) (by decide +kernel) rfl, ⟨pm_3.1, pm_3.2, pd_13⟩, Nat.le_of_ble_eq_true rfl, rfl⟩
theorem xr_become_in : Cond.instanceMethod xr_become.1 ∈ bw := bw_t (i := 704) (by decide +kernel) rfl
theorem xr_become_se : Cond.selects xr_become.1.cls xr_become.1 xr_become.1 ∈ bw := bw_t (i := 705) (by decide +kernel) rfl
def xs_write : cMi := (⟨"SlantSheets", "write", "(III)I"⟩, prog_1_method_41_code, 4, (some .int), 1, 3)
theorem xs_write_ok : Mok xs_write := ⟨plainFor_of_name pn_0, bw_t (i := 711) (by decide +kernel) rfl, bw_t (i := 1) (by decide +kernel) rfl, ⟨pm_0.1, pm_0.2, pd_15⟩, Nat.le_of_ble_eq_true rfl, rfl⟩
theorem xs_write_in : Cond.instanceMethod xs_write.1 ∈ bw := bw_t (i := 709) (by decide +kernel) rfl
theorem xs_write_se : Cond.selects xs_write.1.cls xs_write.1 xs_write.1 ∈ bw := bw_t (i := 710) (by decide +kernel) rfl
def xr_isMissing : cMi := (⟨"SlantSheets$Row", "isMissing", "()Z"⟩, prog_4_method_2_code, 1, (some .boolean), 4, 0)
theorem xr_isMissing_ok : Mok xr_isMissing := ⟨plainFor_of_name pn_3, bw_t (i := 715) (by decide +kernel) rfl, bw_t (i := 7) (by decide +kernel) rfl, ⟨pm_3.1, pm_3.2, pd_4⟩, Nat.le_of_ble_eq_true rfl, rfl⟩
theorem xr_isMissing_in : Cond.instanceMethod xr_isMissing.1 ∈ bw := bw_t (i := 713) (by decide +kernel) rfl
theorem xr_isMissing_se : Cond.selects xr_isMissing.1.cls xr_isMissing.1 xr_isMissing.1 ∈ bw := bw_t (i := 714) (by decide +kernel) rfl
def xr_set : cMi := (⟨"SlantSheets$Row", "set", "(II)V"⟩, prog_4_method_4_code, 3, none, 0, 2)
theorem xr_set_ok : Mok xr_set := ⟨plainFor_of_name pn_3, bw_t (i := 719) (by decide +kernel) rfl, bw_t (i := 7) (by decide +kernel) rfl, ⟨pm_3.1, pm_3.2, pd_13⟩, Nat.le_of_ble_eq_true rfl, rfl⟩
theorem xr_set_in : Cond.instanceMethod xr_set.1 ∈ bw := bw_t (i := 717) (by decide +kernel) rfl
theorem xr_set_se : Cond.selects xr_set.1.cls xr_set.1 xr_set.1 ∈ bw := bw_t (i := 718) (by decide +kernel) rfl
def xs_copy : cMi := (⟨"SlantSheets", "copy", "(IIIII)I"⟩, prog_1_method_42_code, 6, (some .int), 1, 5)
theorem xs_copy_ok : Mok xs_copy := ⟨plainFor_of_name pn_0, bw_t (i := 723) (by decide +kernel) rfl, bw_t (i := 1) (by decide +kernel) rfl, ⟨pm_0.1, pm_0.2, pd_18⟩, Nat.le_of_ble_eq_true rfl, rfl⟩
theorem xs_copy_in : Cond.instanceMethod xs_copy.1 ∈ bw := bw_t (i := 721) (by decide +kernel) rfl
theorem xs_copy_se : Cond.selects xs_copy.1.cls xs_copy.1 xs_copy.1 ∈ bw := bw_t (i := 722) (by decide +kernel) rfl
def xr_hasRange : cMi := (⟨"SlantSheets$Row", "hasRange", "(II)Z"⟩, prog_4_method_5_code, 3, (some .boolean), 4, 2)
theorem xr_hasRange_ok : Mok xr_hasRange := ⟨plainFor_of_name pn_3, bw_t (i := 727) (by decide +kernel) rfl, bw_t (i := 7) (by decide +kernel) rfl, ⟨pm_3.1, pm_3.2, pd_14⟩, Nat.le_of_ble_eq_true rfl, rfl⟩
theorem xr_hasRange_in : Cond.instanceMethod xr_hasRange.1 ∈ bw := bw_t (i := 725) (by decide +kernel) rfl
theorem xr_hasRange_se : Cond.selects xr_hasRange.1.cls xr_hasRange.1 xr_hasRange.1 ∈ bw := bw_t (i := 726) (by decide +kernel) rfl
def xs_from : cMi := (⟨"SlantSheets", "from", "(II)I"⟩, prog_1_method_43_code, 6, (some .int), 1, 2)
theorem xs_from_ok : Mok xs_from := ⟨plainFor_of_name pn_0, bw_t (i := 732) (by decide +kernel) rfl, bw_t (i := 1) (by decide +kernel) rfl, ⟨pm_0.1, pm_0.2, pd_12⟩, Nat.le_of_ble_eq_true rfl, rfl⟩
theorem xs_from_in : Cond.instanceMethod xs_from.1 ∈ bw := bw_t (i := 730) (by decide +kernel) rfl
theorem xs_from_se : Cond.selects xs_from.1.cls xs_from.1 xs_from.1 ∈ bw := bw_t (i := 731) (by decide +kernel) rfl
def xs_judge : cMi := (⟨"SlantSheets", "judge", "(II)I"⟩, prog_1_method_44_code, 5, (some .int), 1, 2)
theorem xs_judge_ok : Mok xs_judge := ⟨plainFor_of_name pn_0, bw_t (i := 736) (by decide +kernel) rfl, bw_t (i := 1) (by decide +kernel) rfl, ⟨pm_0.1, pm_0.2, pd_12⟩, Nat.le_of_ble_eq_true rfl, rfl⟩
theorem xs_judge_in : Cond.instanceMethod xs_judge.1 ∈ bw := bw_t (i := 734) (by decide +kernel) rfl
theorem xs_judge_se : Cond.selects xs_judge.1.cls xs_judge.1 xs_judge.1 ∈ bw := bw_t (i := 735) (by decide +kernel) rfl
def xs_image : cMi := (⟨"SlantSheets", "image", "()I"⟩, prog_1_method_45_code, 1, (some .int), 1, 0)
theorem xs_image_ok : Mok xs_image := ⟨plainFor_of_name pn_0, bw_t (i := 740) (by decide +kernel) rfl, bw_t (i := 1) (by decide +kernel) rfl, ⟨pm_0.1, pm_0.2, pd_1⟩, Nat.le_of_ble_eq_true rfl, rfl⟩
theorem xs_image_in : Cond.instanceMethod xs_image.1 ∈ bw := bw_t (i := 738) (by decide +kernel) rfl
theorem xs_image_se : Cond.selects xs_image.1.cls xs_image.1 xs_image.1 ∈ bw := bw_t (i := 739) (by decide +kernel) rfl
def xs_undo : cMi := (⟨"SlantSheets", "undo", "()I"⟩, prog_1_method_46_code, 1, (some .int), 1, 0)
theorem xs_undo_ok : Mok xs_undo := ⟨plainFor_of_name pn_0, bw_t (i := 744) (by decide +kernel) rfl, bw_t (i := 1) (by decide +kernel) rfl, ⟨pm_0.1, pm_0.2, pd_1⟩, Nat.le_of_ble_eq_true rfl, rfl⟩
theorem xs_undo_in : Cond.instanceMethod xs_undo.1 ∈ bw := bw_t (i := 742) (by decide +kernel) rfl
theorem xs_undo_se : Cond.selects xs_undo.1.cls xs_undo.1 xs_undo.1 ∈ bw := bw_t (i := 743) (by decide +kernel) rfl
def xs_tear : cMi := (⟨"SlantSheets", "tear", "()I"⟩, prog_1_method_47_code, 2, (some .int), 1, 0)
theorem xs_tear_ok : Mok xs_tear := ⟨plainFor_of_name pn_0, bw_t (i := 748) (by decide +kernel) rfl, bw_t (i := 1) (by decide +kernel) rfl, ⟨pm_0.1, pm_0.2, pd_1⟩, Nat.le_of_ble_eq_true rfl, rfl⟩
theorem xs_tear_in : Cond.instanceMethod xs_tear.1 ∈ bw := bw_t (i := 746) (by decide +kernel) rfl
theorem xs_tear_se : Cond.selects xs_tear.1.cls xs_tear.1 xs_tear.1 ∈ bw := bw_t (i := 747) (by decide +kernel) rfl
def xs_count : cMi := (⟨"SlantSheets", "count", "(I)I"⟩, prog_1_method_48_code, 2, (some .int), 1, 1)
theorem xs_count_ok : Mok xs_count := ⟨plainFor_of_name pn_0, bw_t (i := 752) (by decide +kernel) rfl, bw_t (i := 1) (by decide +kernel) rfl, ⟨pm_0.1, pm_0.2, pd_8⟩, Nat.le_of_ble_eq_true rfl, rfl⟩
theorem xs_count_in : Cond.instanceMethod xs_count.1 ∈ bw := bw_t (i := 750) (by decide +kernel) rfl
theorem xs_count_se : Cond.selects xs_count.1.cls xs_count.1 xs_count.1 ∈ bw := bw_t (i := 751) (by decide +kernel) rfl
def xg_sheetsInStacks : cMi := (⟨"SlantSheets$Scene", "sheetsInStacks", "()I"⟩, prog_5_method_9_code, 3, (some .int), 1, 0)
theorem xg_sheetsInStacks_ok : Mok xg_sheetsInStacks := ⟨plainFor_of_name pn_4, bw_t (i := 756) (by decide +kernel) rfl, bw_t (i := 2) (by decide +kernel) rfl, ⟨pm_4.1, pm_4.2, pd_1⟩, Nat.le_of_ble_eq_true rfl, rfl⟩
theorem xg_sheetsInStacks_in : Cond.instanceMethod xg_sheetsInStacks.1 ∈ bw := bw_t (i := 754) (by decide +kernel) rfl
theorem xg_sheetsInStacks_se : Cond.selects xg_sheetsInStacks.1.cls xg_sheetsInStacks.1 xg_sheetsInStacks.1 ∈ bw := bw_t (i := 755) (by decide +kernel) rfl
def xg_spotsInUse : cMi := (⟨"SlantSheets$Scene", "spotsInUse", "()I"⟩, prog_5_method_10_code, 3, (some .int), 1, 0)
theorem xg_spotsInUse_ok : Mok xg_spotsInUse := ⟨plainFor_of_name pn_4, bw_t (i := 760) (by decide +kernel) rfl, bw_t (i := 2) (by decide +kernel) rfl, ⟨pm_4.1, pm_4.2, pd_1⟩, Nat.le_of_ble_eq_true rfl, rfl⟩
theorem xg_spotsInUse_in : Cond.instanceMethod xg_spotsInUse.1 ∈ bw := bw_t (i := 758) (by decide +kernel) rfl
theorem xg_spotsInUse_se : Cond.selects xg_spotsInUse.1.cls xg_spotsInUse.1 xg_spotsInUse.1 ∈ bw := bw_t (i := 759) (by decide +kernel) rfl
def xs_status : cMi := (⟨"SlantSheets", "status", "(I)I"⟩, prog_1_method_49_code, 4, (some .int), 1, 1)
theorem xs_status_ok : Mok xs_status := ⟨plainFor_of_name pn_0, bw_t (i := 764) (by decide +kernel) rfl, bw_t (i := 1) (by decide +kernel) rfl, ⟨pm_0.1, pm_0.2, pd_8⟩, Nat.le_of_ble_eq_true rfl, rfl⟩
theorem xs_status_in : Cond.instanceMethod xs_status.1 ∈ bw := bw_t (i := 762) (by decide +kernel) rfl
theorem xs_status_se : Cond.selects xs_status.1.cls xs_status.1 xs_status.1 ∈ bw := bw_t (i := 763) (by decide +kernel) rfl
def xm_sheet : cMi := (⟨"SlantSheetsModel", "sheet", "(III)I"⟩, prog_9_method_15_code, 4, (some .int), 1, 3)
theorem xm_sheet_ok : Mok xm_sheet := ⟨plainFor_of_name pn_8, bw_t (i := 839) (by decide +kernel) rfl, bw_t (i := 8) (by decide +kernel) rfl, ⟨pm_8.1, pm_8.2, pd_15⟩, Nat.le_of_ble_eq_true rfl, rfl⟩
theorem xm_sheet_in : Cond.instanceMethod xm_sheet.1 ∈ bw := bw_t (i := 837) (by decide +kernel) rfl
theorem xm_sheet_se : Cond.selects xm_sheet.1.cls xm_sheet.1 xm_sheet.1 ∈ bw := bw_t (i := 838) (by decide +kernel) rfl
def xm_isPart : cMi := (⟨"SlantSheetsModel", "isPart", "(II)Z"⟩, prog_9_method_13_code, 2, (some .boolean), 4, 2)
theorem xm_isPart_ok : Mok xm_isPart := ⟨plainFor_of_name pn_8, bw_t (i := 842) (by decide +kernel) rfl, bw_t (i := 8) (by decide +kernel) rfl, ⟨pm_8.1, pm_8.2, pd_14⟩, Nat.le_of_ble_eq_true rfl, rfl⟩
theorem xm_isPart_st : Cond.static xm_isPart.1 ∈ bw := bw_t (i := 841) (by decide +kernel) rfl
def xm_in : cMi := (⟨"SlantSheetsModel", "in", "(JJJ)Z"⟩, prog_9_method_2_code, 6, (some .boolean), 4, 3)
theorem xm_in_ok : Mok xm_in := ⟨plainFor_of_name pn_8, bw_t (i := 846) (by decide +kernel) rfl, bw_t (i := 8) (by decide +kernel) rfl, ⟨pm_8.1, pm_8.2, pd_24⟩, Nat.le_of_ble_eq_true rfl, rfl⟩
theorem xm_in_st : Cond.static xm_in.1 ∈ bw := bw_t (i := 845) (by decide +kernel) rfl
def xm_isSlant : cMi := (⟨"SlantSheetsModel", "isSlant", "(I)Z"⟩, prog_9_method_4_code, 1, (some .boolean), 4, 1)
theorem xm_isSlant_ok : Mok xm_isSlant := ⟨plainFor_of_name pn_8, bw_t (i := 849) (by decide +kernel) rfl, bw_t (i := 8) (by decide +kernel) rfl, ⟨pm_8.1, pm_8.2, pd_11⟩, Nat.le_of_ble_eq_true rfl, rfl⟩
theorem xm_isSlant_st : Cond.static xm_isSlant.1 ∈ bw := bw_t (i := 848) (by decide +kernel) rfl
def xm_isShare : cMi := (⟨"SlantSheetsModel", "isShare", "(I)Z"⟩, prog_9_method_5_code, 1, (some .boolean), 4, 1)
theorem xm_isShare_ok : Mok xm_isShare := ⟨plainFor_of_name pn_8, bw_t (i := 853) (by decide +kernel) rfl, bw_t (i := 8) (by decide +kernel) rfl, ⟨pm_8.1, pm_8.2, pd_11⟩, Nat.le_of_ble_eq_true rfl, rfl⟩
theorem xm_isShare_st : Cond.static xm_isShare.1 ∈ bw := bw_t (i := 852) (by decide +kernel) rfl
def xm_finds : cMi := (⟨"SlantSheetsModel", "finds", "(I)I"⟩, prog_9_method_3_code, 2, (some .int), 1, 1)
theorem xm_finds_ok : Mok xm_finds := ⟨plainFor_of_name pn_8, bw_t (i := 859) (by decide +kernel) rfl, bw_t (i := 8) (by decide +kernel) rfl, ⟨pm_8.1, pm_8.2, pd_8⟩, Nat.le_of_ble_eq_true rfl, rfl⟩
theorem xm_finds_in : Cond.instanceMethod xm_finds.1 ∈ bw := bw_t (i := 858) (by decide +kernel) rfl
theorem xm_finds_se : Cond.selects xm_finds.1.cls xm_finds.1 xm_finds.1 ∈ bw := bw_s (i := 21) (q := (xm_finds.1, 21)) (by decide +kernel)
def xm_newSheet : cMi := (⟨"SlantSheetsModel", "newSheet", "(III)I"⟩, prog_9_method_14_code, 5, (some .int), 1, 3)
theorem xm_newSheet_ok : Mok xm_newSheet := ⟨plainFor_of_name pn_8, bw_t (i := 864) (by decide +kernel) rfl, bw_t (i := 8) (by decide +kernel) rfl, ⟨pm_8.1, pm_8.2, pd_15⟩, Nat.le_of_ble_eq_true rfl, rfl⟩
theorem xm_newSheet_in : Cond.instanceMethod xm_newSheet.1 ∈ bw := bw_t (i := 863) (by decide +kernel) rfl
theorem xm_newSheet_se : Cond.selects xm_newSheet.1.cls xm_newSheet.1 xm_newSheet.1 ∈ bw := bw_s (i := 22) (q := (xm_newSheet.1, 21)) (by decide +kernel)
def xm_sheetOf : cMi := (⟨"SlantSheetsModel", "sheetOf", "(II)I"⟩, prog_9_method_16_code, 3, (some .int), 1, 2)
theorem xm_sheetOf_ok : Mok xm_sheetOf := ⟨plainFor_of_name pn_8, bw_t (i := 868) (by decide +kernel) rfl, bw_t (i := 8) (by decide +kernel) rfl, ⟨pm_8.1, pm_8.2, pd_12⟩, Nat.le_of_ble_eq_true rfl, rfl⟩
theorem xm_sheetOf_in : Cond.instanceMethod xm_sheetOf.1 ∈ bw := bw_t (i := 866) (by decide +kernel) rfl
theorem xm_sheetOf_se : Cond.selects xm_sheetOf.1.cls xm_sheetOf.1 xm_sheetOf.1 ∈ bw := bw_t (i := 867) (by decide +kernel) rfl
def xm_isSheet : cMi := (⟨"SlantSheetsModel", "isSheet", "(I)Z"⟩, prog_9_method_7_code, 2, (some .boolean), 4, 1)
theorem xm_isSheet_ok : Mok xm_isSheet := ⟨plainFor_of_name pn_8, bw_t (i := 872) (by decide +kernel) rfl, bw_t (i := 8) (by decide +kernel) rfl, ⟨pm_8.1, pm_8.2, pd_11⟩, Nat.le_of_ble_eq_true rfl, rfl⟩
theorem xm_isSheet_in : Cond.instanceMethod xm_isSheet.1 ∈ bw := bw_t (i := 871) (by decide +kernel) rfl
theorem xm_isSheet_se : Cond.selects xm_isSheet.1.cls xm_isSheet.1 xm_isSheet.1 ∈ bw := bw_s (i := 23) (q := (xm_isSheet.1, 21)) (by decide +kernel)
def xm_change : cMi := (⟨"SlantSheetsModel", "change", "(III)I"⟩, prog_9_method_17_code, 5, (some .int), 1, 3)
theorem xm_change_ok : Mok xm_change := ⟨plainFor_of_name pn_8, bw_t (i := 877) (by decide +kernel) rfl, bw_t (i := 8) (by decide +kernel) rfl, ⟨pm_8.1, pm_8.2, pd_15⟩, Nat.le_of_ble_eq_true rfl, rfl⟩
theorem xm_change_in : Cond.instanceMethod xm_change.1 ∈ bw := bw_t (i := 875) (by decide +kernel) rfl
theorem xm_change_se : Cond.selects xm_change.1.cls xm_change.1 xm_change.1 ∈ bw := bw_t (i := 876) (by decide +kernel) rfl
def xm_load : cMi := (⟨"SlantSheetsModel", "load", "(I)I"⟩, prog_9_method_18_code, 3, (some .int), 1, 1)
theorem xm_load_ok : Mok xm_load := ⟨plainFor_of_name pn_8, bw_t (i := 881) (by decide +kernel) rfl, bw_t (i := 8) (by decide +kernel) rfl, ⟨pm_8.1, pm_8.2, pd_8⟩, Nat.le_of_ble_eq_true rfl, rfl⟩
theorem xm_load_in : Cond.instanceMethod xm_load.1 ∈ bw := bw_t (i := 879) (by decide +kernel) rfl
theorem xm_load_se : Cond.selects xm_load.1.cls xm_load.1 xm_load.1 ∈ bw := bw_t (i := 880) (by decide +kernel) rfl
def xm_lamp : cMi := (⟨"SlantSheetsModel", "lamp", "(II)I"⟩, prog_9_method_19_code, 4, (some .int), 1, 2)
theorem xm_lamp_ok : Mok xm_lamp := ⟨plainFor_of_name pn_8, bw_t (i := 885) (by decide +kernel) rfl, bw_t (i := 8) (by decide +kernel) rfl, ⟨pm_8.1, pm_8.2, pd_12⟩, Nat.le_of_ble_eq_true rfl, rfl⟩
theorem xm_lamp_in : Cond.instanceMethod xm_lamp.1 ∈ bw := bw_t (i := 883) (by decide +kernel) rfl
theorem xm_lamp_se : Cond.selects xm_lamp.1.cls xm_lamp.1 xm_lamp.1 ∈ bw := bw_t (i := 884) (by decide +kernel) rfl
def xm_lay : cMi := (⟨"SlantSheetsModel", "lay", "(II)I"⟩, prog_9_method_21_code, 3, (some .int), 1, 2)
theorem xm_lay_ok : Mok xm_lay := ⟨plainFor_of_name pn_8, bw_t (i := 889) (by decide +kernel) rfl, bw_t (i := 8) (by decide +kernel) rfl, ⟨pm_8.1, pm_8.2, pd_12⟩, Nat.le_of_ble_eq_true rfl, rfl⟩
theorem xm_lay_in : Cond.instanceMethod xm_lay.1 ∈ bw := bw_t (i := 887) (by decide +kernel) rfl
theorem xm_lay_se : Cond.selects xm_lay.1.cls xm_lay.1 xm_lay.1 ∈ bw := bw_t (i := 888) (by decide +kernel) rfl
def xm_isStack : cMi := (⟨"SlantSheetsModel", "isStack", "(I)Z"⟩, prog_9_method_6_code, 1, (some .boolean), 4, 1)
theorem xm_isStack_ok : Mok xm_isStack := ⟨plainFor_of_name pn_8, bw_t (i := 892) (by decide +kernel) rfl, bw_t (i := 8) (by decide +kernel) rfl, ⟨pm_8.1, pm_8.2, pd_11⟩, Nat.le_of_ble_eq_true rfl, rfl⟩
theorem xm_isStack_st : Cond.static xm_isStack.1 ∈ bw := bw_t (i := 891) (by decide +kernel) rfl
def xm_manyIn : cMi := (⟨"SlantSheetsModel", "manyIn", "(I)I"⟩, prog_9_method_10_code, 2, (some .int), 1, 1)
theorem xm_manyIn_ok : Mok xm_manyIn := ⟨plainFor_of_name pn_8, bw_t (i := 897) (by decide +kernel) rfl, bw_t (i := 8) (by decide +kernel) rfl, ⟨pm_8.1, pm_8.2, pd_8⟩, Nat.le_of_ble_eq_true rfl, rfl⟩
theorem xm_manyIn_in : Cond.instanceMethod xm_manyIn.1 ∈ bw := bw_t (i := 896) (by decide +kernel) rfl
theorem xm_manyIn_se : Cond.selects xm_manyIn.1.cls xm_manyIn.1 xm_manyIn.1 ∈ bw := bw_s (i := 24) (q := (xm_manyIn.1, 21)) (by decide +kernel)
def xm_lays : cMi := (⟨"SlantSheetsModel", "lays", "(II)V"⟩, prog_9_method_20_code, 3, none, 0, 2)
theorem xm_lays_ok : Mok xm_lays := ⟨plainFor_of_name pn_8, bw_t (i := 901) (by decide +kernel) rfl, bw_t (i := 8) (by decide +kernel) rfl, ⟨pm_8.1, pm_8.2, pd_13⟩, Nat.le_of_ble_eq_true rfl, rfl⟩
theorem xm_lays_in : Cond.instanceMethod xm_lays.1 ∈ bw := bw_t (i := 900) (by decide +kernel) rfl
theorem xm_lays_se : Cond.selects xm_lays.1.cls xm_lays.1 xm_lays.1 ∈ bw := bw_s (i := 25) (q := (xm_lays.1, 21)) (by decide +kernel)
def xm_off : cMi := (⟨"SlantSheetsModel", "off", "(I)I"⟩, prog_9_method_22_code, 2, (some .int), 1, 1)
theorem xm_off_ok : Mok xm_off := ⟨plainFor_of_name pn_8, bw_t (i := 905) (by decide +kernel) rfl, bw_t (i := 8) (by decide +kernel) rfl, ⟨pm_8.1, pm_8.2, pd_8⟩, Nat.le_of_ble_eq_true rfl, rfl⟩
theorem xm_off_in : Cond.instanceMethod xm_off.1 ∈ bw := bw_t (i := 903) (by decide +kernel) rfl
theorem xm_off_se : Cond.selects xm_off.1.cls xm_off.1 xm_off.1 ∈ bw := bw_t (i := 904) (by decide +kernel) rfl
def xm_sheetIn : cMi := (⟨"SlantSheetsModel", "sheetIn", "(II)I"⟩, prog_9_method_11_code, 3, (some .int), 1, 2)
theorem xm_sheetIn_ok : Mok xm_sheetIn := ⟨plainFor_of_name pn_8, bw_t (i := 910) (by decide +kernel) rfl, bw_t (i := 8) (by decide +kernel) rfl, ⟨pm_8.1, pm_8.2, pd_12⟩, Nat.le_of_ble_eq_true rfl, rfl⟩
theorem xm_sheetIn_in : Cond.instanceMethod xm_sheetIn.1 ∈ bw := bw_t (i := 909) (by decide +kernel) rfl
theorem xm_sheetIn_se : Cond.selects xm_sheetIn.1.cls xm_sheetIn.1 xm_sheetIn.1 ∈ bw := bw_s (i := 26) (q := (xm_sheetIn.1, 21)) (by decide +kernel)
def xm_at : cMi := (⟨"SlantSheetsModel", "at", "(II)I"⟩, prog_9_method_23_code, 3, (some .int), 1, 2)
theorem xm_at_ok : Mok xm_at := ⟨plainFor_of_name pn_8, bw_t (i := 914) (by decide +kernel) rfl, bw_t (i := 8) (by decide +kernel) rfl, ⟨pm_8.1, pm_8.2, pd_12⟩, Nat.le_of_ble_eq_true rfl, rfl⟩
theorem xm_at_in : Cond.instanceMethod xm_at.1 ∈ bw := bw_t (i := 912) (by decide +kernel) rfl
theorem xm_at_se : Cond.selects xm_at.1.cls xm_at.1 xm_at.1 ∈ bw := bw_t (i := 913) (by decide +kernel) rfl
def xm_round : cMi := (⟨"SlantSheetsModel", "round", "(I)I"⟩, prog_9_method_24_code, 4, (some .int), 1, 1)
theorem xm_round_ok : Mok xm_round := ⟨plainFor_of_name pn_8, bw_t (i := 919) (by decide +kernel) rfl, bw_t (i := 8) (by decide +kernel) rfl, ⟨pm_8.1, pm_8.2, pd_8⟩, Nat.le_of_ble_eq_true rfl, rfl⟩
theorem xm_round_in : Cond.instanceMethod xm_round.1 ∈ bw := bw_t (i := 917) (by decide +kernel) rfl
theorem xm_round_se : Cond.selects xm_round.1.cls xm_round.1 xm_round.1 ∈ bw := bw_t (i := 918) (by decide +kernel) rfl
def xm_like : cMi := (⟨"SlantSheetsModel", "like", "(II)I"⟩, prog_9_method_25_code, 4, (some .int), 1, 2)
theorem xm_like_ok : Mok xm_like := ⟨plainFor_of_name pn_8, bw_t (i := 923) (by decide +kernel) rfl, bw_t (i := 8) (by decide +kernel) rfl, ⟨pm_8.1, pm_8.2, pd_12⟩, Nat.le_of_ble_eq_true rfl, rfl⟩
theorem xm_like_in : Cond.instanceMethod xm_like.1 ∈ bw := bw_t (i := 921) (by decide +kernel) rfl
theorem xm_like_se : Cond.selects xm_like.1.cls xm_like.1 xm_like.1 ∈ bw := bw_t (i := 922) (by decide +kernel) rfl
def xm_through : cMi := (⟨"SlantSheetsModel", "through", "(IZI)I"⟩, prog_9_method_34_code, 4, (some .int), 1, 3)
theorem xm_through_ok : Mok xm_through := ⟨plainFor_of_name pn_8, bw_t (i := 927) (by decide +kernel) rfl, bw_t (i := 8) (by decide +kernel) rfl, ⟨pm_8.1, pm_8.2, pd_22⟩, Nat.le_of_ble_eq_true rfl, rfl⟩
theorem xm_through_in : Cond.instanceMethod xm_through.1 ∈ bw := bw_t (i := 925) (by decide +kernel) rfl
theorem xm_through_se : Cond.selects xm_through.1.cls xm_through.1 xm_through.1 ∈ bw := bw_t (i := 926) (by decide +kernel) rfl
def xm_lights : cMi := (⟨"SlantSheetsModel", "lights", "()V"⟩, prog_9_method_30_code, 1, none, 0, 0)
theorem xm_lights_ok : Mok xm_lights := ⟨plainFor_of_name pn_8, bw_t (i := 931) (by decide +kernel) rfl, bw_t (i := 8) (by decide +kernel) rfl, ⟨pm_8.1, pm_8.2, pd_3⟩, Nat.le_of_ble_eq_true rfl, rfl⟩
theorem xm_lights_in : Cond.instanceMethod xm_lights.1 ∈ bw := bw_t (i := 930) (by decide +kernel) rfl
theorem xm_lights_se : Cond.selects xm_lights.1.cls xm_lights.1 xm_lights.1 ∈ bw := bw_s (i := 27) (q := (xm_lights.1, 21)) (by decide +kernel)
def xm_goesThrough : cMi := (⟨"SlantSheetsModel", "goesThrough", "(IZ)V"⟩, prog_9_method_31_code, 5, none, 0, 2)
theorem xm_goesThrough_ok : Mok xm_goesThrough := ⟨plainFor_of_name pn_8, bw_t (i := 935) (by decide +kernel) rfl, bw_t (i := 8) (by decide +kernel) rfl, ⟨pm_8.1, pm_8.2, pd_21⟩, Nat.le_of_ble_eq_true rfl, rfl⟩
theorem xm_goesThrough_in : Cond.instanceMethod xm_goesThrough.1 ∈ bw := bw_t (i := 934) (by decide +kernel) rfl
theorem xm_goesThrough_se : Cond.selects xm_goesThrough.1.cls xm_goesThrough.1 xm_goesThrough.1 ∈ bw := bw_s (i := 28) (q := (xm_goesThrough.1, 21)) (by decide +kernel)
def xm_goes : cMi := (⟨"SlantSheetsModel", "goes", "(IZ)V"⟩, prog_9_method_29_code, 5, none, 0, 2)
theorem xm_goes_ok : Mok xm_goes := ⟨plainFor_of_name pn_8, bw_t (i := 939) (by decide +kernel) rfl, bw_t (i := 8) (by decide +kernel) rfl, ⟨pm_8.1, pm_8.2, pd_21⟩, Nat.le_of_ble_eq_true rfl, rfl⟩
theorem xm_goes_in : Cond.instanceMethod xm_goes.1 ∈ bw := bw_t (i := 938) (by decide +kernel) rfl
theorem xm_goes_se : Cond.selects xm_goes.1.cls xm_goes.1 xm_goes.1 ∈ bw := bw_s (i := 29) (q := (xm_goes.1, 21)) (by decide +kernel)
def xm_filters : cMi := (⟨"SlantSheetsModel", "filters", "(I)V"⟩, prog_9_method_27_code, 2, none, 0, 1)
theorem xm_filters_ok : Mok xm_filters := ⟨plainFor_of_name pn_8, bw_t (i := 943) (by decide +kernel) rfl, bw_t (i := 8) (by decide +kernel) rfl, ⟨pm_8.1, pm_8.2, pd_10⟩, Nat.le_of_ble_eq_true rfl, rfl⟩
theorem xm_filters_in : Cond.instanceMethod xm_filters.1 ∈ bw := bw_t (i := 942) (by decide +kernel) rfl
theorem xm_filters_se : Cond.selects xm_filters.1.cls xm_filters.1 xm_filters.1 ∈ bw := bw_s (i := 30) (q := (xm_filters.1, 21)) (by decide +kernel)
def xm_cos : cMi := (⟨"SlantSheetsModel", "cos", "(II)I"⟩, prog_9_method_26_code, 3, (some .int), 1, 2)
theorem xm_cos_ok : Mok xm_cos := ⟨plainFor_of_name pn_8, bw_t (i := 946) (by decide +kernel) rfl, bw_t (i := 8) (by decide +kernel) rfl, ⟨pm_8.1, pm_8.2, pd_12⟩, Nat.le_of_ble_eq_true rfl, rfl⟩
theorem xm_cos_st : Cond.static xm_cos.1 ∈ bw := bw_t (i := 945) (by decide +kernel) rfl
def xm_turns : cMi := (⟨"SlantSheetsModel", "turns", "(I)V"⟩, prog_9_method_28_code, 2, none, 0, 1)
theorem xm_turns_ok : Mok xm_turns := ⟨plainFor_of_name pn_8, bw_t (i := 950) (by decide +kernel) rfl, bw_t (i := 8) (by decide +kernel) rfl, ⟨pm_8.1, pm_8.2, pd_10⟩, Nat.le_of_ble_eq_true rfl, rfl⟩
theorem xm_turns_in : Cond.instanceMethod xm_turns.1 ∈ bw := bw_t (i := 949) (by decide +kernel) rfl
theorem xm_turns_se : Cond.selects xm_turns.1.cls xm_turns.1 xm_turns.1 ∈ bw := bw_s (i := 31) (q := (xm_turns.1, 21)) (by decide +kernel)
def xm_seen : cMi := (⟨"SlantSheetsModel", "seen", "(IZI)I"⟩, prog_9_method_35_code, 4, (some .int), 1, 3)
theorem xm_seen_ok : Mok xm_seen := ⟨plainFor_of_name pn_8, bw_t (i := 954) (by decide +kernel) rfl, bw_t (i := 8) (by decide +kernel) rfl, ⟨pm_8.1, pm_8.2, pd_22⟩, Nat.le_of_ble_eq_true rfl, rfl⟩
theorem xm_seen_in : Cond.instanceMethod xm_seen.1 ∈ bw := bw_t (i := 952) (by decide +kernel) rfl
theorem xm_seen_se : Cond.selects xm_seen.1.cls xm_seen.1 xm_seen.1 ∈ bw := bw_t (i := 953) (by decide +kernel) rfl
def xm_seenAt : cMi := (⟨"SlantSheetsModel", "seenAt", "(I)I"⟩, prog_9_method_32_code, 2, (some .int), 1, 1)
theorem xm_seenAt_ok : Mok xm_seenAt := ⟨plainFor_of_name pn_8, bw_t (i := 958) (by decide +kernel) rfl, bw_t (i := 8) (by decide +kernel) rfl, ⟨pm_8.1, pm_8.2, pd_8⟩, Nat.le_of_ble_eq_true rfl, rfl⟩
theorem xm_seenAt_in : Cond.instanceMethod xm_seenAt.1 ∈ bw := bw_t (i := 957) (by decide +kernel) rfl
theorem xm_seenAt_se : Cond.selects xm_seenAt.1.cls xm_seenAt.1 xm_seenAt.1 ∈ bw := bw_s (i := 32) (q := (xm_seenAt.1, 21)) (by decide +kernel)
def xm_bright : cMi := (⟨"SlantSheetsModel", "bright", "(IZ)I"⟩, prog_9_method_36_code, 5, (some .int), 1, 2)
theorem xm_bright_ok : Mok xm_bright := ⟨plainFor_of_name pn_8, bw_t (i := 962) (by decide +kernel) rfl, bw_t (i := 8) (by decide +kernel) rfl, ⟨pm_8.1, pm_8.2, pd_20⟩, Nat.le_of_ble_eq_true rfl, rfl⟩
theorem xm_bright_in : Cond.instanceMethod xm_bright.1 ∈ bw := bw_t (i := 960) (by decide +kernel) rfl
theorem xm_bright_se : Cond.selects xm_bright.1.cls xm_bright.1 xm_bright.1 ∈ bw := bw_t (i := 961) (by decide +kernel) rfl
def xm_dark : cMi := (⟨"SlantSheetsModel", "dark", "(IZ)I"⟩, prog_9_method_37_code, 5, (some .int), 1, 2)
theorem xm_dark_ok : Mok xm_dark := ⟨plainFor_of_name pn_8, bw_t (i := 966) (by decide +kernel) rfl, bw_t (i := 8) (by decide +kernel) rfl, ⟨pm_8.1, pm_8.2, pd_20⟩, Nat.le_of_ble_eq_true rfl, rfl⟩
theorem xm_dark_in : Cond.instanceMethod xm_dark.1 ∈ bw := bw_t (i := 964) (by decide +kernel) rfl
theorem xm_dark_se : Cond.selects xm_dark.1.cls xm_dark.1 xm_dark.1 ∈ bw := bw_t (i := 965) (by decide +kernel) rfl
def xm_alike : cMi := (⟨"SlantSheetsModel", "alike", "(III)I"⟩, prog_9_method_39_code, 6, (some .int), 1, 3)
theorem xm_alike_ok : Mok xm_alike := ⟨plainFor_of_name pn_8, bw_t (i := 970) (by decide +kernel) rfl, bw_t (i := 8) (by decide +kernel) rfl, ⟨pm_8.1, pm_8.2, pd_15⟩, Nat.le_of_ble_eq_true rfl, rfl⟩
theorem xm_alike_in : Cond.instanceMethod xm_alike.1 ∈ bw := bw_t (i := 968) (by decide +kernel) rfl
theorem xm_alike_se : Cond.selects xm_alike.1.cls xm_alike.1 xm_alike.1 ∈ bw := bw_t (i := 969) (by decide +kernel) rfl
def xm_seenThrough : cMi := (⟨"SlantSheetsModel", "seenThrough", "(II)I"⟩, prog_9_method_33_code, 3, (some .int), 1, 2)
theorem xm_seenThrough_ok : Mok xm_seenThrough := ⟨plainFor_of_name pn_8, bw_t (i := 974) (by decide +kernel) rfl, bw_t (i := 8) (by decide +kernel) rfl, ⟨pm_8.1, pm_8.2, pd_12⟩, Nat.le_of_ble_eq_true rfl, rfl⟩
theorem xm_seenThrough_in : Cond.instanceMethod xm_seenThrough.1 ∈ bw := bw_t (i := 973) (by decide +kernel) rfl
theorem xm_seenThrough_se : Cond.selects xm_seenThrough.1.cls xm_seenThrough.1 xm_seenThrough.1 ∈ bw := bw_s (i := 33) (q := (xm_seenThrough.1, 21)) (by decide +kernel)
def xm_size : cMi := (⟨"SlantSheetsModel", "size", "(I)I"⟩, prog_9_method_38_code, 1, (some .int), 1, 1)
theorem xm_size_ok : Mok xm_size := ⟨plainFor_of_name pn_8, bw_t (i := 977) (by decide +kernel) rfl, bw_t (i := 8) (by decide +kernel) rfl, ⟨pm_8.1, pm_8.2, pd_8⟩, Nat.le_of_ble_eq_true rfl, rfl⟩
theorem xm_size_st : Cond.static xm_size.1 ∈ bw := bw_t (i := 976) (by decide +kernel) rfl
def xm_sky : cMi := (⟨"SlantSheetsModel", "sky", "(II)I"⟩, prog_9_method_41_code, 3, (some .int), 1, 2)
theorem xm_sky_ok : Mok xm_sky := ⟨plainFor_of_name pn_8, bw_t (i := 981) (by decide +kernel) rfl, bw_t (i := 8) (by decide +kernel) rfl, ⟨pm_8.1, pm_8.2, pd_12⟩, Nat.le_of_ble_eq_true rfl, rfl⟩
theorem xm_sky_in : Cond.instanceMethod xm_sky.1 ∈ bw := bw_t (i := 979) (by decide +kernel) rfl
theorem xm_sky_se : Cond.selects xm_sky.1.cls xm_sky.1 xm_sky.1 ∈ bw := bw_t (i := 980) (by decide +kernel) rfl
def xm_shines : cMi := (⟨"SlantSheetsModel", "shines", "(I)V"⟩, prog_9_method_40_code, 3, none, 0, 1)
theorem xm_shines_ok : Mok xm_shines := ⟨plainFor_of_name pn_8, bw_t (i := 986) (by decide +kernel) rfl, bw_t (i := 8) (by decide +kernel) rfl, ⟨pm_8.1, pm_8.2, pd_10⟩, Nat.le_of_ble_eq_true rfl, rfl⟩
theorem xm_shines_in : Cond.instanceMethod xm_shines.1 ∈ bw := bw_t (i := 985) (by decide +kernel) rfl
theorem xm_shines_se : Cond.selects xm_shines.1.cls xm_shines.1 xm_shines.1 ∈ bw := bw_s (i := 34) (q := (xm_shines.1, 21)) (by decide +kernel)
def xm_hours : cMi := (⟨"SlantSheetsModel", "hours", "(III)I"⟩, prog_9_method_42_code, 6, (some .int), 1, 3)
theorem xm_hours_ok : Mok xm_hours := ⟨plainFor_of_name pn_8, bw_t (i := 991) (by decide +kernel) rfl, bw_t (i := 8) (by decide +kernel) rfl, ⟨pm_8.1, pm_8.2, pd_15⟩, Nat.le_of_ble_eq_true rfl, rfl⟩
theorem xm_hours_in : Cond.instanceMethod xm_hours.1 ∈ bw := bw_t (i := 989) (by decide +kernel) rfl
theorem xm_hours_se : Cond.selects xm_hours.1.cls xm_hours.1 xm_hours.1 ∈ bw := bw_t (i := 990) (by decide +kernel) rfl
def xm_loads : cMi := (⟨"SlantSheetsModel", "loads", "(III)I"⟩, prog_9_method_43_code, 7, (some .int), 1, 3)
theorem xm_loads_ok : Mok xm_loads := ⟨plainFor_of_name pn_8, bw_t (i := 995) (by decide +kernel) rfl, bw_t (i := 8) (by decide +kernel) rfl, ⟨pm_8.1, pm_8.2, pd_15⟩, Nat.le_of_ble_eq_true rfl, rfl⟩
theorem xm_loads_in : Cond.instanceMethod xm_loads.1 ∈ bw := bw_t (i := 993) (by decide +kernel) rfl
theorem xm_loads_se : Cond.selects xm_loads.1.cls xm_loads.1 xm_loads.1 ∈ bw := bw_t (i := 994) (by decide +kernel) rfl
def xm_nearest : cMi := (⟨"SlantSheetsModel", "nearest", "(III)I"⟩, prog_9_method_45_code, 8, (some .int), 1, 3)
theorem xm_nearest_ok : Mok xm_nearest := ⟨plainFor_of_name pn_8, bw_t (i := 999) (by decide +kernel) rfl, bw_t (i := 8) (by decide +kernel) rfl, ⟨pm_8.1, pm_8.2, pd_15⟩, Nat.le_of_ble_eq_true rfl, rfl⟩
theorem xm_nearest_in : Cond.instanceMethod xm_nearest.1 ∈ bw := bw_t (i := 997) (by decide +kernel) rfl
theorem xm_nearest_se : Cond.selects xm_nearest.1.cls xm_nearest.1 xm_nearest.1 ∈ bw := bw_t (i := 998) (by decide +kernel) rfl
def xm_seenWith : cMi := (⟨"SlantSheetsModel", "seenWith", "(IIIII)I"⟩, prog_9_method_44_code, 6, (some .int), 1, 5)
theorem xm_seenWith_ok : Mok xm_seenWith := ⟨plainFor_of_name pn_8, bw_t (i := 1003) (by decide +kernel) rfl, bw_t (i := 8) (by decide +kernel) rfl, ⟨pm_8.1, pm_8.2, pd_18⟩, Nat.le_of_ble_eq_true rfl, rfl⟩
theorem xm_seenWith_in : Cond.instanceMethod xm_seenWith.1 ∈ bw := bw_t (i := 1002) (by decide +kernel) rfl
theorem xm_seenWith_se : Cond.selects xm_seenWith.1.cls xm_seenWith.1 xm_seenWith.1 ∈ bw := bw_s (i := 35) (q := (xm_seenWith.1, 21)) (by decide +kernel)
def xm_fewest : cMi := (⟨"SlantSheetsModel", "fewest", "(III)I"⟩, prog_9_method_46_code, 9, (some .int), 1, 3)
theorem xm_fewest_ok : Mok xm_fewest := ⟨plainFor_of_name pn_8, bw_t (i := 1007) (by decide +kernel) rfl, bw_t (i := 8) (by decide +kernel) rfl, ⟨pm_8.1, pm_8.2, pd_15⟩, Nat.le_of_ble_eq_true rfl, rfl⟩
theorem xm_fewest_in : Cond.instanceMethod xm_fewest.1 ∈ bw := bw_t (i := 1005) (by decide +kernel) rfl
theorem xm_fewest_se : Cond.selects xm_fewest.1.cls xm_fewest.1 xm_fewest.1 ∈ bw := bw_t (i := 1006) (by decide +kernel) rfl
def xm_turnFor : cMi := (⟨"SlantSheetsModel", "turnFor", "(III)I"⟩, prog_9_method_47_code, 9, (some .int), 1, 3)
theorem xm_turnFor_ok : Mok xm_turnFor := ⟨plainFor_of_name pn_8, bw_t (i := 1012) (by decide +kernel) rfl, bw_t (i := 8) (by decide +kernel) rfl, ⟨pm_8.1, pm_8.2, pd_15⟩, Nat.le_of_ble_eq_true rfl, rfl⟩
theorem xm_turnFor_in : Cond.instanceMethod xm_turnFor.1 ∈ bw := bw_t (i := 1010) (by decide +kernel) rfl
theorem xm_turnFor_se : Cond.selects xm_turnFor.1.cls xm_turnFor.1 xm_turnFor.1 ∈ bw := bw_t (i := 1011) (by decide +kernel) rfl
def xm_spare : cMi := (⟨"SlantSheetsModel", "spare", "(II)I"⟩, prog_9_method_48_code, 8, (some .int), 1, 2)
theorem xm_spare_ok : Mok xm_spare := ⟨plainFor_of_name pn_8, bw_t (i := 1016) (by decide +kernel) rfl, bw_t (i := 8) (by decide +kernel) rfl, ⟨pm_8.1, pm_8.2, pd_12⟩, Nat.le_of_ble_eq_true rfl, rfl⟩
theorem xm_spare_in : Cond.instanceMethod xm_spare.1 ∈ bw := bw_t (i := 1014) (by decide +kernel) rfl
theorem xm_spare_se : Cond.selects xm_spare.1.cls xm_spare.1 xm_spare.1 ∈ bw := bw_t (i := 1015) (by decide +kernel) rfl
def xm_look : cMi := (⟨"SlantSheetsModel", "look", "(II)I"⟩, prog_9_method_49_code, 3, (some .int), 1, 2)
theorem xm_look_ok : Mok xm_look := ⟨plainFor_of_name pn_8, bw_t (i := 1020) (by decide +kernel) rfl, bw_t (i := 8) (by decide +kernel) rfl, ⟨pm_8.1, pm_8.2, pd_12⟩, Nat.le_of_ble_eq_true rfl, rfl⟩
theorem xm_look_in : Cond.instanceMethod xm_look.1 ∈ bw := bw_t (i := 1018) (by decide +kernel) rfl
theorem xm_look_se : Cond.selects xm_look.1.cls xm_look.1 xm_look.1 ∈ bw := bw_t (i := 1019) (by decide +kernel) rfl
def xm_clear : cMi := (⟨"SlantSheetsModel", "clear", "()I"⟩, prog_9_method_50_code, 2, (some .int), 1, 0)
theorem xm_clear_ok : Mok xm_clear := ⟨plainFor_of_name pn_8, bw_t (i := 1024) (by decide +kernel) rfl, bw_t (i := 8) (by decide +kernel) rfl, ⟨pm_8.1, pm_8.2, pd_1⟩, Nat.le_of_ble_eq_true rfl, rfl⟩
theorem xm_clear_in : Cond.instanceMethod xm_clear.1 ∈ bw := bw_t (i := 1022) (by decide +kernel) rfl
theorem xm_clear_se : Cond.selects xm_clear.1.cls xm_clear.1 xm_clear.1 ∈ bw := bw_t (i := 1023) (by decide +kernel) rfl
def xm_orders : cMi := (⟨"SlantSheetsModel", "orders", "(I)I"⟩, prog_9_method_55_code, 5, (some .int), 1, 1)
theorem xm_orders_ok : Mok xm_orders := ⟨plainFor_of_name pn_8, bw_t (i := 1028) (by decide +kernel) rfl, bw_t (i := 8) (by decide +kernel) rfl, ⟨pm_8.1, pm_8.2, pd_8⟩, Nat.le_of_ble_eq_true rfl, rfl⟩
theorem xm_orders_in : Cond.instanceMethod xm_orders.1 ∈ bw := bw_t (i := 1026) (by decide +kernel) rfl
theorem xm_orders_se : Cond.selects xm_orders.1.cls xm_orders.1 xm_orders.1 ∈ bw := bw_t (i := 1027) (by decide +kernel) rfl
def xm_firstOrder : cMi := (⟨"SlantSheetsModel", "firstOrder", "(I)V"⟩, prog_9_method_51_code, 5, none, 0, 1)
theorem xm_firstOrder_ok : Mok xm_firstOrder := ⟨plainFor_of_name pn_8, bw_t (i := 1032) (by decide +kernel) rfl, bw_t (i := 8) (by decide +kernel) rfl, ⟨pm_8.1, pm_8.2, pd_10⟩, Nat.le_of_ble_eq_true rfl, rfl⟩
theorem xm_firstOrder_in : Cond.instanceMethod xm_firstOrder.1 ∈ bw := bw_t (i := 1031) (by decide +kernel) rfl
theorem xm_firstOrder_se : Cond.selects xm_firstOrder.1.cls xm_firstOrder.1 xm_firstOrder.1 ∈ bw := bw_s (i := 36) (q := (xm_firstOrder.1, 21)) (by decide +kernel)
def xm_isFit : cMi := (⟨"SlantSheetsModel", "isFit", "(I)Z"⟩, prog_9_method_54_code, 4, (some .boolean), 4, 1)
theorem xm_isFit_ok : Mok xm_isFit := ⟨plainFor_of_name pn_8, bw_t (i := 1036) (by decide +kernel) rfl, bw_t (i := 8) (by decide +kernel) rfl, ⟨pm_8.1, pm_8.2, pd_11⟩, Nat.le_of_ble_eq_true rfl, rfl⟩
theorem xm_isFit_in : Cond.instanceMethod xm_isFit.1 ∈ bw := bw_t (i := 1035) (by decide +kernel) rfl
theorem xm_isFit_se : Cond.selects xm_isFit.1.cls xm_isFit.1 xm_isFit.1 ∈ bw := bw_s (i := 37) (q := (xm_isFit.1, 21)) (by decide +kernel)
def xm_goesOrder : cMi := (⟨"SlantSheetsModel", "goesOrder", "(I)V"⟩, prog_9_method_53_code, 3, none, 0, 1)
theorem xm_goesOrder_ok : Mok xm_goesOrder := ⟨plainFor_of_name pn_8, bw_t (i := 1040) (by decide +kernel) rfl, bw_t (i := 8) (by decide +kernel) rfl, ⟨pm_8.1, pm_8.2, pd_10⟩, Nat.le_of_ble_eq_true rfl, rfl⟩
theorem xm_goesOrder_in : Cond.instanceMethod xm_goesOrder.1 ∈ bw := bw_t (i := 1039) (by decide +kernel) rfl
theorem xm_goesOrder_se : Cond.selects xm_goesOrder.1.cls xm_goesOrder.1 xm_goesOrder.1 ∈ bw := bw_s (i := 38) (q := (xm_goesOrder.1, 21)) (by decide +kernel)
def xm_nextOrder : cMi := (⟨"SlantSheetsModel", "nextOrder", "(I)Z"⟩, prog_9_method_52_code, 7, (some .boolean), 4, 1)
theorem xm_nextOrder_ok : Mok xm_nextOrder := ⟨plainFor_of_name pn_8, bw_t (i := 1044) (by decide +kernel) rfl, bw_t (i := 8) (by decide +kernel) rfl, ⟨pm_8.1, pm_8.2, pd_11⟩, Nat.le_of_ble_eq_true rfl, rfl⟩
theorem xm_nextOrder_in : Cond.instanceMethod xm_nextOrder.1 ∈ bw := bw_t (i := 1043) (by decide +kernel) rfl
theorem xm_nextOrder_se : Cond.selects xm_nextOrder.1.cls xm_nextOrder.1 xm_nextOrder.1 ∈ bw := bw_s (i := 39) (q := (xm_nextOrder.1, 21)) (by decide +kernel)
def xm_order : cMi := (⟨"SlantSheetsModel", "order", "(I)I"⟩, prog_9_method_56_code, 5, (some .int), 1, 1)
theorem xm_order_ok : Mok xm_order := ⟨plainFor_of_name pn_8, bw_t (i := 1048) (by decide +kernel) rfl, bw_t (i := 8) (by decide +kernel) rfl, ⟨pm_8.1, pm_8.2, pd_8⟩, Nat.le_of_ble_eq_true rfl, rfl⟩
theorem xm_order_in : Cond.instanceMethod xm_order.1 ∈ bw := bw_t (i := 1046) (by decide +kernel) rfl
theorem xm_order_se : Cond.selects xm_order.1.cls xm_order.1 xm_order.1 ∈ bw := bw_t (i := 1047) (by decide +kernel) rfl
def xm_apart : cMi := (⟨"SlantSheetsModel", "apart", "(I)I"⟩, prog_9_method_57_code, 9, (some .int), 1, 1)
theorem xm_apart_ok : Mok xm_apart := ⟨plainFor_of_name pn_8, bw_t (i := 1052) (by decide +kernel) rfl, bw_t (i := 8) (by decide +kernel) rfl, ⟨pm_8.1, pm_8.2, pd_8⟩, Nat.le_of_ble_eq_true rfl, rfl⟩
theorem xm_apart_in : Cond.instanceMethod xm_apart.1 ∈ bw := bw_t (i := 1050) (by decide +kernel) rfl
theorem xm_apart_se : Cond.selects xm_apart.1.cls xm_apart.1 xm_apart.1 ∈ bw := bw_t (i := 1051) (by decide +kernel) rfl
def xm_pairs : cMi := (⟨"SlantSheetsModel", "pairs", "(II)I"⟩, prog_9_method_60_code, 6, (some .int), 1, 2)
theorem xm_pairs_ok : Mok xm_pairs := ⟨plainFor_of_name pn_8, bw_t (i := 1056) (by decide +kernel) rfl, bw_t (i := 8) (by decide +kernel) rfl, ⟨pm_8.1, pm_8.2, pd_12⟩, Nat.le_of_ble_eq_true rfl, rfl⟩
theorem xm_pairs_in : Cond.instanceMethod xm_pairs.1 ∈ bw := bw_t (i := 1054) (by decide +kernel) rfl
theorem xm_pairs_se : Cond.selects xm_pairs.1.cls xm_pairs.1 xm_pairs.1 ∈ bw := bw_t (i := 1055) (by decide +kernel) rfl
def xm_findSigns : cMi := (⟨"SlantSheetsModel", "findSigns", "(I)V"⟩, prog_9_method_58_code, 3, none, 0, 1)
theorem xm_findSigns_ok : Mok xm_findSigns := ⟨plainFor_of_name pn_8, bw_t (i := 1060) (by decide +kernel) rfl, bw_t (i := 8) (by decide +kernel) rfl, ⟨pm_8.1, pm_8.2, pd_10⟩, Nat.le_of_ble_eq_true rfl, rfl⟩
theorem xm_findSigns_in : Cond.instanceMethod xm_findSigns.1 ∈ bw := bw_t (i := 1059) (by decide +kernel) rfl
theorem xm_findSigns_se : Cond.selects xm_findSigns.1.cls xm_findSigns.1 xm_findSigns.1 ∈ bw := bw_s (i := 40) (q := (xm_findSigns.1, 21)) (by decide +kernel)
def xm_areApart : cMi := (⟨"SlantSheetsModel", "areApart", "(III)Z"⟩, prog_9_method_59_code, 4, (some .boolean), 4, 3)
theorem xm_areApart_ok : Mok xm_areApart := ⟨plainFor_of_name pn_8, bw_t (i := 1064) (by decide +kernel) rfl, bw_t (i := 8) (by decide +kernel) rfl, ⟨pm_8.1, pm_8.2, pd_17⟩, Nat.le_of_ble_eq_true rfl, rfl⟩
theorem xm_areApart_in : Cond.instanceMethod xm_areApart.1 ∈ bw := bw_t (i := 1063) (by decide +kernel) rfl
theorem xm_areApart_se : Cond.selects xm_areApart.1.cls xm_areApart.1 xm_areApart.1 ∈ bw := bw_s (i := 41) (q := (xm_areApart.1, 21)) (by decide +kernel)
def xm_signs : cMi := (⟨"SlantSheetsModel", "signs", "(II)I"⟩, prog_9_method_62_code, 5, (some .int), 1, 2)
theorem xm_signs_ok : Mok xm_signs := ⟨plainFor_of_name pn_8, bw_t (i := 1068) (by decide +kernel) rfl, bw_t (i := 8) (by decide +kernel) rfl, ⟨pm_8.1, pm_8.2, pd_12⟩, Nat.le_of_ble_eq_true rfl, rfl⟩
theorem xm_signs_in : Cond.instanceMethod xm_signs.1 ∈ bw := bw_t (i := 1066) (by decide +kernel) rfl
theorem xm_signs_se : Cond.selects xm_signs.1.cls xm_signs.1 xm_signs.1 ∈ bw := bw_t (i := 1067) (by decide +kernel) rfl
def xm_ones : cMi := (⟨"SlantSheetsModel", "ones", "(I)I"⟩, prog_9_method_9_code, 3, (some .int), 1, 1)
theorem xm_ones_ok : Mok xm_ones := ⟨plainFor_of_name pn_8, bw_t (i := 1071) (by decide +kernel) rfl, bw_t (i := 8) (by decide +kernel) rfl, ⟨pm_8.1, pm_8.2, pd_8⟩, Nat.le_of_ble_eq_true rfl, rfl⟩
theorem xm_ones_st : Cond.static xm_ones.1 ∈ bw := bw_t (i := 1070) (by decide +kernel) rfl
def xm_areSigns : cMi := (⟨"SlantSheetsModel", "areSigns", "(II)Z"⟩, prog_9_method_61_code, 6, (some .boolean), 4, 2)
theorem xm_areSigns_ok : Mok xm_areSigns := ⟨plainFor_of_name pn_8, bw_t (i := 1075) (by decide +kernel) rfl, bw_t (i := 8) (by decide +kernel) rfl, ⟨pm_8.1, pm_8.2, pd_14⟩, Nat.le_of_ble_eq_true rfl, rfl⟩
theorem xm_areSigns_in : Cond.instanceMethod xm_areSigns.1 ∈ bw := bw_t (i := 1074) (by decide +kernel) rfl
theorem xm_areSigns_se : Cond.selects xm_areSigns.1.cls xm_areSigns.1 xm_areSigns.1 ∈ bw := bw_s (i := 42) (q := (xm_areSigns.1, 21)) (by decide +kernel)
def xm_has : cMi := (⟨"SlantSheetsModel", "has", "(II)Z"⟩, prog_9_method_8_code, 2, (some .boolean), 4, 2)
theorem xm_has_ok : Mok xm_has := ⟨plainFor_of_name pn_8, bw_t (i := 1078) (by decide +kernel) rfl, bw_t (i := 8) (by decide +kernel) rfl, ⟨pm_8.1, pm_8.2, pd_14⟩, Nat.le_of_ble_eq_true rfl, rfl⟩
theorem xm_has_st : Cond.static xm_has.1 ∈ bw := bw_t (i := 1077) (by decide +kernel) rfl
def xm_eyes : cMi := (⟨"SlantSheetsModel", "eyes", "(I)I"⟩, prog_9_method_63_code, 7, (some .int), 1, 1)
theorem xm_eyes_ok : Mok xm_eyes := ⟨plainFor_of_name pn_8, bw_t (i := 1082) (by decide +kernel) rfl, bw_t (i := 8) (by decide +kernel) rfl, ⟨pm_8.1, pm_8.2, pd_8⟩, Nat.le_of_ble_eq_true rfl, rfl⟩
theorem xm_eyes_in : Cond.instanceMethod xm_eyes.1 ∈ bw := bw_t (i := 1080) (by decide +kernel) rfl
theorem xm_eyes_se : Cond.selects xm_eyes.1.cls xm_eyes.1 xm_eyes.1 ∈ bw := bw_t (i := 1081) (by decide +kernel) rfl
def xm_years : cMi := (⟨"SlantSheetsModel", "years", "(I)I"⟩, prog_9_method_64_code, 5, (some .int), 1, 1)
theorem xm_years_ok : Mok xm_years := ⟨plainFor_of_name pn_8, bw_t (i := 1086) (by decide +kernel) rfl, bw_t (i := 8) (by decide +kernel) rfl, ⟨pm_8.1, pm_8.2, pd_8⟩, Nat.le_of_ble_eq_true rfl, rfl⟩
theorem xm_years_in : Cond.instanceMethod xm_years.1 ∈ bw := bw_t (i := 1084) (by decide +kernel) rfl
theorem xm_years_se : Cond.selects xm_years.1.cls xm_years.1 xm_years.1 ∈ bw := bw_t (i := 1085) (by decide +kernel) rfl
def xm_next : cMi := (⟨"SlantSheetsModel", "next", "()I"⟩, prog_9_method_12_code, 1, (some .int), 1, 0)
theorem xm_next_ok : Mok xm_next := ⟨plainFor_of_name pn_8, bw_t (i := 1091) (by decide +kernel) rfl, bw_t (i := 8) (by decide +kernel) rfl, ⟨pm_8.1, pm_8.2, pd_1⟩, Nat.le_of_ble_eq_true rfl, rfl⟩
theorem xm_next_in : Cond.instanceMethod xm_next.1 ∈ bw := bw_t (i := 1090) (by decide +kernel) rfl
theorem xm_next_se : Cond.selects xm_next.1.cls xm_next.1 xm_next.1 ∈ bw := bw_s (i := 43) (q := (xm_next.1, 21)) (by decide +kernel)
def xm_drawn : cMi := (⟨"SlantSheetsModel", "drawn", "(II)I"⟩, prog_9_method_65_code, 4, (some .int), 1, 2)
theorem xm_drawn_ok : Mok xm_drawn := ⟨plainFor_of_name pn_8, bw_t (i := 1096) (by decide +kernel) rfl, bw_t (i := 8) (by decide +kernel) rfl, ⟨pm_8.1, pm_8.2, pd_12⟩, Nat.le_of_ble_eq_true rfl, rfl⟩
theorem xm_drawn_in : Cond.instanceMethod xm_drawn.1 ∈ bw := bw_t (i := 1094) (by decide +kernel) rfl
theorem xm_drawn_se : Cond.selects xm_drawn.1.cls xm_drawn.1 xm_drawn.1 ∈ bw := bw_t (i := 1095) (by decide +kernel) rfl
def xm_seed : cMi := (⟨"SlantSheetsModel", "seed", "(I)I"⟩, prog_9_method_66_code, 3, (some .int), 1, 1)
theorem xm_seed_ok : Mok xm_seed := ⟨plainFor_of_name pn_8, bw_t (i := 1101) (by decide +kernel) rfl, bw_t (i := 8) (by decide +kernel) rfl, ⟨pm_8.1, pm_8.2, pd_8⟩, Nat.le_of_ble_eq_true rfl, rfl⟩
theorem xm_seed_in : Cond.instanceMethod xm_seed.1 ∈ bw := bw_t (i := 1099) (by decide +kernel) rfl
theorem xm_seed_se : Cond.selects xm_seed.1.cls xm_seed.1 xm_seed.1 ∈ bw := bw_t (i := 1100) (by decide +kernel) rfl
def xm_feed : cMi := (⟨"SlantSheetsModel", "feed", "(II)I"⟩, prog_9_method_67_code, 4, (some .int), 1, 2)
theorem xm_feed_ok : Mok xm_feed := ⟨plainFor_of_name pn_8, bw_t (i := 1105) (by decide +kernel) rfl, bw_t (i := 8) (by decide +kernel) rfl, ⟨pm_8.1, pm_8.2, pd_12⟩, Nat.le_of_ble_eq_true rfl, rfl⟩
theorem xm_feed_in : Cond.instanceMethod xm_feed.1 ∈ bw := bw_t (i := 1103) (by decide +kernel) rfl
theorem xm_feed_se : Cond.selects xm_feed.1.cls xm_feed.1 xm_feed.1 ∈ bw := bw_t (i := 1104) (by decide +kernel) rfl
def xm_wipe : cMi := (⟨"SlantSheetsModel", "wipe", "()I"⟩, prog_9_method_68_code, 2, (some .int), 1, 0)
theorem xm_wipe_ok : Mok xm_wipe := ⟨plainFor_of_name pn_8, bw_t (i := 1110) (by decide +kernel) rfl, bw_t (i := 8) (by decide +kernel) rfl, ⟨pm_8.1, pm_8.2, pd_1⟩, Nat.le_of_ble_eq_true rfl, rfl⟩
theorem xm_wipe_in : Cond.instanceMethod xm_wipe.1 ∈ bw := bw_t (i := 1108) (by decide +kernel) rfl
theorem xm_wipe_se : Cond.selects xm_wipe.1.cls xm_wipe.1 xm_wipe.1 ∈ bw := bw_t (i := 1109) (by decide +kernel) rfl
def xm_text : cMi := (⟨"SlantSheetsModel", "text", "()I"⟩, prog_9_method_81_code, 3, (some .int), 1, 0)
theorem xm_text_ok : Mok xm_text := ⟨plainFor_of_name pn_8, bw_t (i := 1114) (by decide +kernel) rfl, bw_t (i := 8) (by decide +kernel) rfl, ⟨pm_8.1, pm_8.2, pd_1⟩, Nat.le_of_ble_eq_true rfl, rfl⟩
theorem xm_text_in : Cond.instanceMethod xm_text.1 ∈ bw := bw_t (i := 1112) (by decide +kernel) rfl
theorem xm_text_se : Cond.selects xm_text.1.cls xm_text.1 xm_text.1 ∈ bw := bw_t (i := 1113) (by decide +kernel) rfl
def xm_token : cMi := (⟨"SlantSheetsModel", "token", "()V"⟩, prog_9_method_72_code, 3, none, 0, 0)
theorem xm_token_ok : Mok xm_token := ⟨plainFor_of_name pn_8, bw_t (i := 1118) (by decide +kernel) rfl, bw_t (i := 8) (by decide +kernel) rfl, ⟨pm_8.1, pm_8.2, pd_3⟩, Nat.le_of_ble_eq_true rfl, rfl⟩
theorem xm_token_in : Cond.instanceMethod xm_token.1 ∈ bw := bw_t (i := 1117) (by decide +kernel) rfl
theorem xm_token_se : Cond.selects xm_token.1.cls xm_token.1 xm_token.1 ∈ bw := bw_s (i := 44) (q := (xm_token.1, 21)) (by decide +kernel)
def xm_byteAt : cMi := (⟨"SlantSheetsModel", "byteAt", "(I)I"⟩, prog_9_method_69_code, 2, (some .int), 1, 1)
theorem xm_byteAt_ok : Mok xm_byteAt := ⟨plainFor_of_name pn_8, bw_t (i := 1122) (by decide +kernel) rfl, bw_t (i := 8) (by decide +kernel) rfl, ⟨pm_8.1, pm_8.2, pd_8⟩, Nat.le_of_ble_eq_true rfl, rfl⟩
theorem xm_byteAt_in : Cond.instanceMethod xm_byteAt.1 ∈ bw := bw_t (i := 1121) (by decide +kernel) rfl
theorem xm_byteAt_se : Cond.selects xm_byteAt.1.cls xm_byteAt.1 xm_byteAt.1 ∈ bw := bw_s (i := 45) (q := (xm_byteAt.1, 21)) (by decide +kernel)
def xm_isLetter : cMi := (⟨"SlantSheetsModel", "isLetter", "(I)Z"⟩, prog_9_method_70_code, 1, (some .boolean), 4, 1)
theorem xm_isLetter_ok : Mok xm_isLetter := ⟨plainFor_of_name pn_8, bw_t (i := 1125) (by decide +kernel) rfl, bw_t (i := 8) (by decide +kernel) rfl, ⟨pm_8.1, pm_8.2, pd_11⟩, Nat.le_of_ble_eq_true rfl, rfl⟩
theorem xm_isLetter_st : Cond.static xm_isLetter.1 ∈ bw := bw_t (i := 1124) (by decide +kernel) rfl
def xm_isDigit : cMi := (⟨"SlantSheetsModel", "isDigit", "(I)Z"⟩, prog_9_method_71_code, 1, (some .boolean), 4, 1)
theorem xm_isDigit_ok : Mok xm_isDigit := ⟨plainFor_of_name pn_8, bw_t (i := 1130) (by decide +kernel) rfl, bw_t (i := 8) (by decide +kernel) rfl, ⟨pm_8.1, pm_8.2, pd_11⟩, Nat.le_of_ble_eq_true rfl, rfl⟩
theorem xm_isDigit_st : Cond.static xm_isDigit.1 ∈ bw := bw_t (i := 1129) (by decide +kernel) rfl
def xm_item : cMi := (⟨"SlantSheetsModel", "item", "()V"⟩, prog_9_method_80_code, 2, none, 0, 0)
theorem xm_item_ok : Mok xm_item := ⟨plainFor_of_name pn_8, bw_t (i := 1136) (by decide +kernel) rfl, bw_t (i := 8) (by decide +kernel) rfl, ⟨pm_8.1, pm_8.2, pd_3⟩, Nat.le_of_ble_eq_true rfl, rfl⟩
theorem xm_item_in : Cond.instanceMethod xm_item.1 ∈ bw := bw_t (i := 1135) (by decide +kernel) rfl
theorem xm_item_se : Cond.selects xm_item.1.cls xm_item.1 xm_item.1 ∈ bw := bw_s (i := 46) (q := (xm_item.1, 21)) (by decide +kernel)
def xm_kindHere : cMi := (⟨"SlantSheetsModel", "kindHere", "()I"⟩, prog_9_method_76_code, 3, (some .int), 1, 0)
theorem xm_kindHere_ok : Mok xm_kindHere := ⟨plainFor_of_name pn_8, bw_t (i := 1140) (by decide +kernel) rfl, bw_t (i := 8) (by decide +kernel) rfl, ⟨pm_8.1, pm_8.2, pd_1⟩, Nat.le_of_ble_eq_true rfl, rfl⟩
theorem xm_kindHere_in : Cond.instanceMethod xm_kindHere.1 ∈ bw := bw_t (i := 1139) (by decide +kernel) rfl
theorem xm_kindHere_se : Cond.selects xm_kindHere.1.cls xm_kindHere.1 xm_kindHere.1 ∈ bw := bw_s (i := 47) (q := (xm_kindHere.1, 21)) (by decide +kernel)
def xm_word : cMi := (⟨"SlantSheetsModel", "word", "()J"⟩, prog_9_method_74_code, 4, (some .long), 2, 0)
theorem xm_word_ok : Mok xm_word := ⟨plainFor_of_name pn_8, bw_t (i := 1144) (by decide +kernel) rfl, bw_t (i := 8) (by decide +kernel) rfl, ⟨pm_8.1, pm_8.2, pd_2⟩, Nat.le_of_ble_eq_true rfl, rfl⟩
theorem xm_word_in : Cond.instanceMethod xm_word.1 ∈ bw := bw_t (i := 1143) (by decide +kernel) rfl
theorem xm_word_se : Cond.selects xm_word.1.cls xm_word.1 xm_word.1 ∈ bw := bw_s (i := 48) (q := (xm_word.1, 21)) (by decide +kernel)
def xm_sheetItem : cMi := (⟨"SlantSheetsModel", "sheetItem", "(I)V"⟩, prog_9_method_77_code, 5, none, 0, 1)
theorem xm_sheetItem_ok : Mok xm_sheetItem := ⟨plainFor_of_name pn_8, bw_t (i := 1157) (by decide +kernel) rfl, bw_t (i := 8) (by decide +kernel) rfl, ⟨pm_8.1, pm_8.2, pd_10⟩, Nat.le_of_ble_eq_true rfl, rfl⟩
theorem xm_sheetItem_in : Cond.instanceMethod xm_sheetItem.1 ∈ bw := bw_t (i := 1156) (by decide +kernel) rfl
theorem xm_sheetItem_se : Cond.selects xm_sheetItem.1.cls xm_sheetItem.1 xm_sheetItem.1 ∈ bw := bw_s (i := 49) (q := (xm_sheetItem.1, 21)) (by decide +kernel)
def xm_needs : cMi := (⟨"SlantSheetsModel", "needs", "(Z)V"⟩, prog_9_method_73_code, 2, none, 0, 1)
theorem xm_needs_ok : Mok xm_needs := ⟨plainFor_of_name pn_8, bw_t (i := 1161) (by decide +kernel) rfl, bw_t (i := 8) (by decide +kernel) rfl, ⟨pm_8.1, pm_8.2, pd_28⟩, Nat.le_of_ble_eq_true rfl, rfl⟩
theorem xm_needs_in : Cond.instanceMethod xm_needs.1 ∈ bw := bw_t (i := 1160) (by decide +kernel) rfl
theorem xm_needs_se : Cond.selects xm_needs.1.cls xm_needs.1 xm_needs.1 ∈ bw := bw_s (i := 50) (q := (xm_needs.1, 21)) (by decide +kernel)
def xm_number : cMi := (⟨"SlantSheetsModel", "number", "(II)V"⟩, prog_9_method_75_code, 6, none, 0, 2)
theorem xm_number_ok : Mok xm_number := ⟨plainFor_of_name pn_8, bw_t (i := 1166) (by decide +kernel) rfl, bw_t (i := 8) (by decide +kernel) rfl, ⟨pm_8.1, pm_8.2, pd_13⟩, Nat.le_of_ble_eq_true rfl, rfl⟩
theorem xm_number_in : Cond.instanceMethod xm_number.1 ∈ bw := bw_t (i := 1165) (by decide +kernel) rfl
theorem xm_number_se : Cond.selects xm_number.1.cls xm_number.1 xm_number.1 ∈ bw := bw_s (i := 51) (q := (xm_number.1, 21)) (by decide +kernel)
def xm_stackItem : cMi := (⟨"SlantSheetsModel", "stackItem", "()V"⟩, prog_9_method_78_code, 3, none, 0, 0)
theorem xm_stackItem_ok : Mok xm_stackItem := ⟨plainFor_of_name pn_8, bw_t (i := 1172) (by decide +kernel) rfl, bw_t (i := 8) (by decide +kernel) rfl, ⟨pm_8.1, pm_8.2, pd_3⟩, Nat.le_of_ble_eq_true rfl, rfl⟩
theorem xm_stackItem_in : Cond.instanceMethod xm_stackItem.1 ∈ bw := bw_t (i := 1171) (by decide +kernel) rfl
theorem xm_stackItem_se : Cond.selects xm_stackItem.1.cls xm_stackItem.1 xm_stackItem.1 ∈ bw := bw_s (i := 52) (q := (xm_stackItem.1, 21)) (by decide +kernel)
def xm_lampItem : cMi := (⟨"SlantSheetsModel", "lampItem", "()V"⟩, prog_9_method_79_code, 3, none, 0, 0)
theorem xm_lampItem_ok : Mok xm_lampItem := ⟨plainFor_of_name pn_8, bw_t (i := 1177) (by decide +kernel) rfl, bw_t (i := 8) (by decide +kernel) rfl, ⟨pm_8.1, pm_8.2, pd_3⟩, Nat.le_of_ble_eq_true rfl, rfl⟩
theorem xm_lampItem_in : Cond.instanceMethod xm_lampItem.1 ∈ bw := bw_t (i := 1176) (by decide +kernel) rfl
theorem xm_lampItem_se : Cond.selects xm_lampItem.1.cls xm_lampItem.1 xm_lampItem.1 ∈ bw := bw_s (i := 53) (q := (xm_lampItem.1, 21)) (by decide +kernel)
def xm_hold : cMi := (⟨"SlantSheetsModel", "hold", "(II)I"⟩, prog_9_method_82_code, 3, (some .int), 1, 2)
theorem xm_hold_ok : Mok xm_hold := ⟨plainFor_of_name pn_8, bw_t (i := 1184) (by decide +kernel) rfl, bw_t (i := 8) (by decide +kernel) rfl, ⟨pm_8.1, pm_8.2, pd_12⟩, Nat.le_of_ble_eq_true rfl, rfl⟩
theorem xm_hold_in : Cond.instanceMethod xm_hold.1 ∈ bw := bw_t (i := 1182) (by decide +kernel) rfl
theorem xm_hold_se : Cond.selects xm_hold.1.cls xm_hold.1 xm_hold.1 ∈ bw := bw_t (i := 1183) (by decide +kernel) rfl
def xm_as : cMi := (⟨"SlantSheetsModel", "as", "(II)I"⟩, prog_9_method_83_code, 6, (some .int), 1, 2)
theorem xm_as_ok : Mok xm_as := ⟨plainFor_of_name pn_8, bw_t (i := 1189) (by decide +kernel) rfl, bw_t (i := 8) (by decide +kernel) rfl, ⟨pm_8.1, pm_8.2, pd_12⟩, Nat.le_of_ble_eq_true rfl, rfl⟩
theorem xm_as_in : Cond.instanceMethod xm_as.1 ∈ bw := bw_t (i := 1187) (by decide +kernel) rfl
theorem xm_as_se : Cond.selects xm_as.1.cls xm_as.1 xm_as.1 ∈ bw := bw_t (i := 1188) (by decide +kernel) rfl
def xm_row : cMi := (⟨"SlantSheetsModel", "row", "(III)I"⟩, prog_9_method_85_code, 5, (some .int), 1, 3)
theorem xm_row_ok : Mok xm_row := ⟨plainFor_of_name pn_8, bw_t (i := 1195) (by decide +kernel) rfl, bw_t (i := 8) (by decide +kernel) rfl, ⟨pm_8.1, pm_8.2, pd_15⟩, Nat.le_of_ble_eq_true rfl, rfl⟩
theorem xm_row_in : Cond.instanceMethod xm_row.1 ∈ bw := bw_t (i := 1193) (by decide +kernel) rfl
theorem xm_row_se : Cond.selects xm_row.1.cls xm_row.1 xm_row.1 ∈ bw := bw_t (i := 1194) (by decide +kernel) rfl
def xm_isOne : cMi := (⟨"SlantSheetsModel", "isOne", "(I)Z"⟩, prog_9_method_84_code, 1, (some .boolean), 4, 1)
theorem xm_isOne_ok : Mok xm_isOne := ⟨plainFor_of_name pn_8, bw_t (i := 1198) (by decide +kernel) rfl, bw_t (i := 8) (by decide +kernel) rfl, ⟨pm_8.1, pm_8.2, pd_11⟩, Nat.le_of_ble_eq_true rfl, rfl⟩
theorem xm_isOne_st : Cond.static xm_isOne.1 ∈ bw := bw_t (i := 1197) (by decide +kernel) rfl
def xm_write : cMi := (⟨"SlantSheetsModel", "write", "(III)I"⟩, prog_9_method_88_code, 5, (some .int), 1, 3)
theorem xm_write_ok : Mok xm_write := ⟨plainFor_of_name pn_8, bw_t (i := 1202) (by decide +kernel) rfl, bw_t (i := 8) (by decide +kernel) rfl, ⟨pm_8.1, pm_8.2, pd_15⟩, Nat.le_of_ble_eq_true rfl, rfl⟩
theorem xm_write_in : Cond.instanceMethod xm_write.1 ∈ bw := bw_t (i := 1200) (by decide +kernel) rfl
theorem xm_write_se : Cond.selects xm_write.1.cls xm_write.1 xm_write.1 ∈ bw := bw_t (i := 1201) (by decide +kernel) rfl
def xm_wrong : cMi := (⟨"SlantSheetsModel", "wrong", "(I)I"⟩, prog_9_method_87_code, 2, (some .int), 1, 1)
theorem xm_wrong_ok : Mok xm_wrong := ⟨plainFor_of_name pn_8, bw_t (i := 1206) (by decide +kernel) rfl, bw_t (i := 8) (by decide +kernel) rfl, ⟨pm_8.1, pm_8.2, pd_8⟩, Nat.le_of_ble_eq_true rfl, rfl⟩
theorem xm_wrong_in : Cond.instanceMethod xm_wrong.1 ∈ bw := bw_t (i := 1205) (by decide +kernel) rfl
theorem xm_wrong_se : Cond.selects xm_wrong.1.cls xm_wrong.1 xm_wrong.1 ∈ bw := bw_s (i := 54) (q := (xm_wrong.1, 21)) (by decide +kernel)
def xm_narrowed : cMi := (⟨"SlantSheetsModel", "narrowed", "(II)I"⟩, prog_9_method_86_code, 2, (some .int), 1, 2)
theorem xm_narrowed_ok : Mok xm_narrowed := ⟨plainFor_of_name pn_8, bw_t (i := 1209) (by decide +kernel) rfl, bw_t (i := 8) (by decide +kernel) rfl, ⟨pm_8.1, pm_8.2, pd_12⟩, Nat.le_of_ble_eq_true rfl, rfl⟩
theorem xm_narrowed_st : Cond.static xm_narrowed.1 ∈ bw := bw_t (i := 1208) (by decide +kernel) rfl
def xm_copy : cMi := (⟨"SlantSheetsModel", "copy", "(IIIII)I"⟩, prog_9_method_89_code, 7, (some .int), 1, 5)
theorem xm_copy_ok : Mok xm_copy := ⟨plainFor_of_name pn_8, bw_t (i := 1213) (by decide +kernel) rfl, bw_t (i := 8) (by decide +kernel) rfl, ⟨pm_8.1, pm_8.2, pd_18⟩, Nat.le_of_ble_eq_true rfl, rfl⟩
theorem xm_copy_in : Cond.instanceMethod xm_copy.1 ∈ bw := bw_t (i := 1211) (by decide +kernel) rfl
theorem xm_copy_se : Cond.selects xm_copy.1.cls xm_copy.1 xm_copy.1 ∈ bw := bw_t (i := 1212) (by decide +kernel) rfl
def xm_from : cMi := (⟨"SlantSheetsModel", "from", "(II)I"⟩, prog_9_method_90_code, 7, (some .int), 1, 2)
theorem xm_from_ok : Mok xm_from := ⟨plainFor_of_name pn_8, bw_t (i := 1217) (by decide +kernel) rfl, bw_t (i := 8) (by decide +kernel) rfl, ⟨pm_8.1, pm_8.2, pd_12⟩, Nat.le_of_ble_eq_true rfl, rfl⟩
theorem xm_from_in : Cond.instanceMethod xm_from.1 ∈ bw := bw_t (i := 1215) (by decide +kernel) rfl
theorem xm_from_se : Cond.selects xm_from.1.cls xm_from.1 xm_from.1 ∈ bw := bw_t (i := 1216) (by decide +kernel) rfl
def xm_judge : cMi := (⟨"SlantSheetsModel", "judge", "(II)I"⟩, prog_9_method_91_code, 5, (some .int), 1, 2)
theorem xm_judge_ok : Mok xm_judge := ⟨plainFor_of_name pn_8, bw_t (i := 1221) (by decide +kernel) rfl, bw_t (i := 8) (by decide +kernel) rfl, ⟨pm_8.1, pm_8.2, pd_12⟩, Nat.le_of_ble_eq_true rfl, rfl⟩
theorem xm_judge_in : Cond.instanceMethod xm_judge.1 ∈ bw := bw_t (i := 1219) (by decide +kernel) rfl
theorem xm_judge_se : Cond.selects xm_judge.1.cls xm_judge.1 xm_judge.1 ∈ bw := bw_t (i := 1220) (by decide +kernel) rfl
def xm_image : cMi := (⟨"SlantSheetsModel", "image", "()I"⟩, prog_9_method_92_code, 2, (some .int), 1, 0)
theorem xm_image_ok : Mok xm_image := ⟨plainFor_of_name pn_8, bw_t (i := 1225) (by decide +kernel) rfl, bw_t (i := 8) (by decide +kernel) rfl, ⟨pm_8.1, pm_8.2, pd_1⟩, Nat.le_of_ble_eq_true rfl, rfl⟩
theorem xm_image_in : Cond.instanceMethod xm_image.1 ∈ bw := bw_t (i := 1223) (by decide +kernel) rfl
theorem xm_image_se : Cond.selects xm_image.1.cls xm_image.1 xm_image.1 ∈ bw := bw_t (i := 1224) (by decide +kernel) rfl
def xm_undo : cMi := (⟨"SlantSheetsModel", "undo", "()I"⟩, prog_9_method_93_code, 2, (some .int), 1, 0)
theorem xm_undo_ok : Mok xm_undo := ⟨plainFor_of_name pn_8, bw_t (i := 1229) (by decide +kernel) rfl, bw_t (i := 8) (by decide +kernel) rfl, ⟨pm_8.1, pm_8.2, pd_1⟩, Nat.le_of_ble_eq_true rfl, rfl⟩
theorem xm_undo_in : Cond.instanceMethod xm_undo.1 ∈ bw := bw_t (i := 1227) (by decide +kernel) rfl
theorem xm_undo_se : Cond.selects xm_undo.1.cls xm_undo.1 xm_undo.1 ∈ bw := bw_t (i := 1228) (by decide +kernel) rfl
def xm_tear : cMi := (⟨"SlantSheetsModel", "tear", "()I"⟩, prog_9_method_94_code, 2, (some .int), 1, 0)
theorem xm_tear_ok : Mok xm_tear := ⟨plainFor_of_name pn_8, bw_t (i := 1233) (by decide +kernel) rfl, bw_t (i := 8) (by decide +kernel) rfl, ⟨pm_8.1, pm_8.2, pd_1⟩, Nat.le_of_ble_eq_true rfl, rfl⟩
theorem xm_tear_in : Cond.instanceMethod xm_tear.1 ∈ bw := bw_t (i := 1231) (by decide +kernel) rfl
theorem xm_tear_se : Cond.selects xm_tear.1.cls xm_tear.1 xm_tear.1 ∈ bw := bw_t (i := 1232) (by decide +kernel) rfl
def xm_count : cMi := (⟨"SlantSheetsModel", "count", "(I)I"⟩, prog_9_method_95_code, 4, (some .int), 1, 1)
theorem xm_count_ok : Mok xm_count := ⟨plainFor_of_name pn_8, bw_t (i := 1237) (by decide +kernel) rfl, bw_t (i := 8) (by decide +kernel) rfl, ⟨pm_8.1, pm_8.2, pd_8⟩, Nat.le_of_ble_eq_true rfl, rfl⟩
theorem xm_count_in : Cond.instanceMethod xm_count.1 ∈ bw := bw_t (i := 1235) (by decide +kernel) rfl
theorem xm_count_se : Cond.selects xm_count.1.cls xm_count.1 xm_count.1 ∈ bw := bw_t (i := 1236) (by decide +kernel) rfl
def xm_status : cMi := (⟨"SlantSheetsModel", "status", "(I)I"⟩, prog_9_method_96_code, 4, (some .int), 1, 1)
theorem xm_status_ok : Mok xm_status := ⟨plainFor_of_name pn_8, bw_t (i := 1241) (by decide +kernel) rfl, bw_t (i := 8) (by decide +kernel) rfl, ⟨pm_8.1, pm_8.2, pd_8⟩, Nat.le_of_ble_eq_true rfl, rfl⟩
theorem xm_status_in : Cond.instanceMethod xm_status.1 ∈ bw := bw_t (i := 1239) (by decide +kernel) rfl
theorem xm_status_se : Cond.selects xm_status.1.cls xm_status.1 xm_status.1 ∈ bw := bw_t (i := 1240) (by decide +kernel) rfl
def xw_law : cMi := (⟨"SlantSheetsLaw", "law", "([I)Z"⟩, code, 4, (some .boolean), 4, 1)
theorem lc_SlantSheets_83 : Cond.constant "SlantSheets" 83 (Int32.ofInt (-1000001)) ∈ bw := bw_t (i := 226) (by decide +kernel) rfl
theorem lc_SlantSheets_92 : Cond.constant "SlantSheets" 92 (Int32.ofInt (-1000002)) ∈ bw := bw_t (i := 231) (by decide +kernel) rfl
theorem lc_SlantSheets_133 : Cond.constant "SlantSheets" 133 (Int32.ofInt (-1000004)) ∈ bw := bw_t (i := 286) (by decide +kernel) rfl
theorem lc_SlantSheets_178 : Cond.constant "SlantSheets" 178 (Int32.ofInt (-1000007)) ∈ bw := bw_t (i := 413) (by decide +kernel) rfl
theorem lc_SlantSheets_256 : Cond.constant "SlantSheets" 256 (Int32.ofInt (-1000005)) ∈ bw := bw_t (i := 537) (by decide +kernel) rfl
theorem lc_SlantSheets_275 : Cond.constant "SlantSheets" 275 (Int32.ofInt (-1000006)) ∈ bw := bw_t (i := 692) (by decide +kernel) rfl
theorem lc_SlantSheets_279 : Cond.constant "SlantSheets" 279 (Int32.ofInt (-1000003)) ∈ bw := bw_t (i := 698) (by decide +kernel) rfl
theorem lc_SlantSheets_Scene_79 : Cond.constant "SlantSheets$Scene" 79 (Int32.ofInt (1103515245)) ∈ bw := bw_t (i := 532) (by decide +kernel) rfl
theorem lc_SlantSheetsModel_50 : Cond.constant "SlantSheetsModel" 50 (Int32.ofInt (-1000001)) ∈ bw := bw_t (i := 855) (by decide +kernel) rfl
theorem lc_SlantSheetsModel_61 : Cond.constant "SlantSheetsModel" 61 (Int32.ofInt (1103515245)) ∈ bw := bw_t (i := 1092) (by decide +kernel) rfl
theorem lc_SlantSheetsModel_79 : Cond.constant "SlantSheetsModel" 79 (Int32.ofInt (-1000002)) ∈ bw := bw_t (i := 860) (by decide +kernel) rfl
theorem lc_SlantSheetsModel_99 : Cond.constant "SlantSheetsModel" 99 (Int32.ofInt (-1000004)) ∈ bw := bw_t (i := 906) (by decide +kernel) rfl
theorem lc_SlantSheetsModel_153 : Cond.constant "SlantSheetsModel" 153 (Int32.ofInt (-1000007)) ∈ bw := bw_t (i := 1008) (by decide +kernel) rfl
theorem lc_SlantSheetsModel_188 : Cond.constant "SlantSheetsModel" 188 (Int32.ofInt (-1000005)) ∈ bw := bw_t (i := 1097) (by decide +kernel) rfl
theorem lc_SlantSheetsModel_286 : Cond.constant "SlantSheetsModel" 286 (Int32.ofInt (-1000006)) ∈ bw := bw_t (i := 1190) (by decide +kernel) rfl
theorem lc_SlantSheetsModel_287 : Cond.constant "SlantSheetsModel" 287 (Int32.ofInt (-1000003)) ∈ bw := bw_t (i := 1191) (by decide +kernel) rfl
theorem lc_java_lang_Integer_265 : Cond.constant "java/lang/Integer" 265 (Int32.ofInt (1431655765)) ∈ bw := bw_t (i := 498) (by decide +kernel) rfl
theorem lc_java_lang_Integer_266 : Cond.constant "java/lang/Integer" 266 (Int32.ofInt (858993459)) ∈ bw := bw_t (i := 499) (by decide +kernel) rfl
theorem lc_java_lang_Integer_267 : Cond.constant "java/lang/Integer" 267 (Int32.ofInt (252645135)) ∈ bw := bw_t (i := 500) (by decide +kernel) rfl
theorem ld_SlantSheetsModel_51 : Cond.constantLong "SlantSheetsModel" 51 (Int64.ofInt (11)) ∈ bw := bw_t (i := 850) (by decide +kernel) rfl
theorem ld_SlantSheetsModel_57 : Cond.constantLong "SlantSheetsModel" 57 (Int64.ofInt (1000)) ∈ bw := bw_t (i := 854) (by decide +kernel) rfl
theorem ld_SlantSheetsModel_59 : Cond.constantLong "SlantSheetsModel" 59 (Int64.ofInt (3)) ∈ bw := bw_t (i := 893) (by decide +kernel) rfl
theorem ld_SlantSheetsModel_62 : Cond.constantLong "SlantSheetsModel" 62 (Int64.ofInt (6)) ∈ bw := bw_t (i := 843) (by decide +kernel) rfl
theorem ld_SlantSheetsModel_87 : Cond.constantLong "SlantSheetsModel" 87 (Int64.ofInt (2)) ∈ bw := bw_t (i := 873) (by decide +kernel) rfl
theorem ld_SlantSheetsModel_104 : Cond.constantLong "SlantSheetsModel" 104 (Int64.ofInt (5)) ∈ bw := bw_t (i := 915) (by decide +kernel) rfl
theorem ld_SlantSheetsModel_142 : Cond.constantLong "SlantSheetsModel" 142 (Int64.ofInt (17)) ∈ bw := bw_t (i := 987) (by decide +kernel) rfl
theorem ld_SlantSheetsModel_144 : Cond.constantLong "SlantSheetsModel" 144 (Int64.ofInt (23)) ∈ bw := bw_t (i := 982) (by decide +kernel) rfl
theorem ld_SlantSheetsModel_182 : Cond.constantLong "SlantSheetsModel" 182 (Int64.ofInt (100)) ∈ bw := bw_t (i := 1087) (by decide +kernel) rfl
theorem ld_SlantSheetsModel_189 : Cond.constantLong "SlantSheetsModel" 189 (Int64.ofInt (4)) ∈ bw := bw_t (i := 1106) (by decide +kernel) rfl
theorem ld_SlantSheetsModel_194 : Cond.constantLong "SlantSheetsModel" 194 (Int64.ofInt (97)) ∈ bw := bw_t (i := 1126) (by decide +kernel) rfl
theorem ld_SlantSheetsModel_196 : Cond.constantLong "SlantSheetsModel" 196 (Int64.ofInt (122)) ∈ bw := bw_t (i := 1127) (by decide +kernel) rfl
theorem ld_SlantSheetsModel_198 : Cond.constantLong "SlantSheetsModel" 198 (Int64.ofInt (48)) ∈ bw := bw_t (i := 1131) (by decide +kernel) rfl
theorem ld_SlantSheetsModel_200 : Cond.constantLong "SlantSheetsModel" 200 (Int64.ofInt (57)) ∈ bw := bw_t (i := 1132) (by decide +kernel) rfl
theorem ld_SlantSheetsModel_224 : Cond.constantLong "SlantSheetsModel" 224 (Int64.ofInt (36028797018963967)) ∈ bw := bw_t (i := 1145) (by decide +kernel) rfl
theorem ld_SlantSheetsModel_226 : Cond.constantLong "SlantSheetsModel" 226 (Int64.ofInt (32)) ∈ bw := bw_t (i := 1146) (by decide +kernel) rfl
theorem ld_SlantSheetsModel_239 : Cond.constantLong "SlantSheetsModel" 239 (Int64.ofInt (20190388)) ∈ bw := bw_t (i := 1147) (by decide +kernel) rfl
theorem ld_SlantSheetsModel_241 : Cond.constantLong "SlantSheetsModel" 241 (Int64.ofInt (211177650)) ∈ bw := bw_t (i := 1148) (by decide +kernel) rfl
theorem ld_SlantSheetsModel_243 : Cond.constantLong "SlantSheetsModel" 243 (Int64.ofInt (693713074)) ∈ bw := bw_t (i := 1149) (by decide +kernel) rfl
theorem ld_SlantSheetsModel_245 : Cond.constantLong "SlantSheetsModel" 245 (Int64.ofInt (263558)) ∈ bw := bw_t (i := 1150) (by decide +kernel) rfl
theorem ld_SlantSheetsModel_247 : Cond.constantLong "SlantSheetsModel" 247 (Int64.ofInt (20364645)) ∈ bw := bw_t (i := 1151) (by decide +kernel) rfl
theorem ld_SlantSheetsModel_249 : Cond.constantLong "SlantSheetsModel" 249 (Int64.ofInt (278094)) ∈ bw := bw_t (i := 1152) (by decide +kernel) rfl
theorem ld_SlantSheetsModel_251 : Cond.constantLong "SlantSheetsModel" 251 (Int64.ofInt (659096878)) ∈ bw := bw_t (i := 1153) (by decide +kernel) rfl
theorem ld_SlantSheetsModel_253 : Cond.constantLong "SlantSheetsModel" 253 (Int64.ofInt (677454)) ∈ bw := bw_t (i := 1162) (by decide +kernel) rfl
theorem ld_SlantSheetsModel_257 : Cond.constantLong "SlantSheetsModel" 257 (Int64.ofInt (525939)) ∈ bw := bw_t (i := 1167) (by decide +kernel) rfl
theorem ld_SlantSheetsModel_259 : Cond.constantLong "SlantSheetsModel" 259 (Int64.ofInt (13951140)) ∈ bw := bw_t (i := 1178) (by decide +kernel) rfl
theorem ld_SlantSheetsModel_261 : Cond.constantLong "SlantSheetsModel" 261 (Int64.ofInt (20317652)) ∈ bw := bw_t (i := 1179) (by decide +kernel) rfl
theorem ld_SlantSheetsModel_269 : Cond.constantLong "SlantSheetsModel" 269 (Int64.ofInt (20579435)) ∈ bw := bw_t (i := 1168) (by decide +kernel) rfl
theorem ld_SlantSheetsModel_274 : Cond.constantLong "SlantSheetsModel" 274 (Int64.ofInt (394672)) ∈ bw := bw_t (i := 1173) (by decide +kernel) rfl
theorem ld_SlantSheetsModel_279 : Cond.constantLong "SlantSheetsModel" 279 (Int64.ofInt (408612)) ∈ bw := bw_t (i := 1180) (by decide +kernel) rfl
theorem ld_SlantSheetsModel_284 : Cond.constantLong "SlantSheetsModel" 284 (Int64.ofInt (9)) ∈ bw := bw_t (i := 1185) (by decide +kernel) rfl
theorem ld_SlantSheetsModel_300 : Cond.constantLong "SlantSheetsModel" 300 (Int64.ofInt (-1)) ∈ bw := bw_t (i := 1242) (by decide +kernel) rfl
theorem lf_SlantSheets_12 : Cond.fieldLink "SlantSheets" 12 "SlantSheets" "scene" "LSlantSheets$Scene;" ∈ bw := bw_t (i := 173) (by decide +kernel) rfl
theorem lf_SlantSheets_16 : Cond.fieldLink "SlantSheets" 16 "SlantSheets" "kept" "LSlantSheets$Scene;" ∈ bw := bw_t (i := 174) (by decide +kernel) rfl
theorem lf_SlantSheets_19 : Cond.fieldLink "SlantSheets" 19 "SlantSheets" "isKept" "Z" ∈ bw := bw_t (i := 175) (by decide +kernel) rfl
theorem lf_SlantSheets_23 : Cond.fieldLink "SlantSheets" 23 "SlantSheets" "draft" "LSlantSheets$Scene;" ∈ bw := bw_t (i := 176) (by decide +kernel) rfl
theorem lf_SlantSheets_29 : Cond.fieldLink "SlantSheets" 29 "SlantSheets" "tape" "LSlantSheets$Tape;" ∈ bw := bw_t (i := 177) (by decide +kernel) rfl
theorem lf_SlantSheets_38 : Cond.fieldLink "SlantSheets" 38 "SlantSheets" "reader" "LSlantSheets$TextReader;" ∈ bw := bw_t (i := 178) (by decide +kernel) rfl
theorem lf_SlantSheets_44 : Cond.fieldLink "SlantSheets" 44 "SlantSheets" "rows" "[LSlantSheets$Row;" ∈ bw := bw_t (i := 179) (by decide +kernel) rfl
theorem lf_SlantSheets_48 : Cond.fieldLink "SlantSheets" 48 "SlantSheets" "findings" "[I" ∈ bw := bw_t (i := 180) (by decide +kernel) rfl
theorem lf_SlantSheets_55 : Cond.fieldLink "SlantSheets" 55 "SlantSheets" "arrangement" "LSlantSheets$Arrangement;" ∈ bw := bw_t (i := 181) (by decide +kernel) rfl
theorem lf_SlantSheets_59 : Cond.fieldLink "SlantSheets" 59 "SlantSheets" "orderLights" "[I" ∈ bw := bw_t (i := 182) (by decide +kernel) rfl
theorem lf_SlantSheets_62 : Cond.fieldLink "SlantSheets" 62 "SlantSheets" "marks" "[I" ∈ bw := bw_t (i := 183) (by decide +kernel) rfl
theorem lf_SlantSheets_65 : Cond.fieldLink "SlantSheets" 65 "SlantSheets" "soleLights" "[I" ∈ bw := bw_t (i := 184) (by decide +kernel) rfl
theorem lf_SlantSheets_68 : Cond.fieldLink "SlantSheets" 68 "SlantSheets" "partners" "[I" ∈ bw := bw_t (i := 185) (by decide +kernel) rfl
theorem lf_SlantSheets_71 : Cond.fieldLink "SlantSheets" 71 "SlantSheets" "tellingTilts" "[I" ∈ bw := bw_t (i := 186) (by decide +kernel) rfl
theorem lf_SlantSheets_88 : Cond.fieldLink "SlantSheets" 88 "SlantSheets$Scene" "sheets" "I" ∈ bw := bw_t (i := 37) (by decide +kernel) rfl
theorem lf_SlantSheets_111 : Cond.fieldLink "SlantSheets" 111 "SlantSheets$Scene" "load" "I" ∈ bw := bw_t (i := 46) (by decide +kernel) rfl
theorem lf_SlantSheets_114 : Cond.fieldLink "SlantSheets" 114 "SlantSheets$Scene" "lampShare" "I" ∈ bw := bw_t (i := 49) (by decide +kernel) rfl
theorem lf_SlantSheets_117 : Cond.fieldLink "SlantSheets" 117 "SlantSheets$Scene" "lampSlant" "I" ∈ bw := bw_t (i := 52) (by decide +kernel) rfl
theorem lf_SlantSheets_130 : Cond.fieldLink "SlantSheets" 130 "SlantSheets$Scene" "heights" "[I" ∈ bw := bw_t (i := 57) (by decide +kernel) rfl
theorem lf_SlantSheets_134 : Cond.fieldLink "SlantSheets" 134 "SlantSheets$Scene" "stacks" "[[I" ∈ bw := bw_t (i := 55) (by decide +kernel) rfl
theorem lf_SlantSheets_183 : Cond.fieldLink "SlantSheets" 183 "SlantSheets$Scene" "turns" "[I" ∈ bw := bw_t (i := 42) (by decide +kernel) rfl
theorem lf_SlantSheets_189 : Cond.fieldLink "SlantSheets" 189 "SlantSheets$Scene" "looks" "I" ∈ bw := bw_t (i := 59) (by decide +kernel) rfl
theorem lf_SlantSheets_205 : Cond.fieldLink "SlantSheets" 205 "SlantSheets$Arrangement" "row" "[I" ∈ bw := bw_t (i := 147) (by decide +kernel) rfl
theorem lf_SlantSheets_208 : Cond.fieldLink "SlantSheets" 208 "SlantSheets$Arrangement" "length" "I" ∈ bw := bw_t (i := 149) (by decide +kernel) rfl
theorem lf_SlantSheets_244 : Cond.fieldLink "SlantSheets" 244 "SlantSheets$Scene" "kinds" "[I" ∈ bw := bw_t (i := 40) (by decide +kernel) rfl
theorem lf_SlantSheets_247 : Cond.fieldLink "SlantSheets" 247 "SlantSheets$Scene" "passes" "[I" ∈ bw := bw_t (i := 44) (by decide +kernel) rfl
theorem lf_SlantSheets_257 : Cond.fieldLink "SlantSheets" 257 "SlantSheets$Scene" "z" "I" ∈ bw := bw_t (i := 63) (by decide +kernel) rfl
theorem lf_SlantSheets_260 : Cond.fieldLink "SlantSheets" 260 "SlantSheets$Tape" "length" "I" ∈ bw := bw_t (i := 106) (by decide +kernel) rfl
theorem lf_SlantSheets_272 : Cond.fieldLink "SlantSheets" 272 "SlantSheets$Scene" "spots" "[I" ∈ bw := bw_t (i := 65) (by decide +kernel) rfl
theorem lf_SlantSheets_282 : Cond.fieldLink "SlantSheets" 282 "SlantSheets$Row" "length" "I" ∈ bw := bw_t (i := 163) (by decide +kernel) rfl
theorem lf_SlantSheets_289 : Cond.fieldLink "SlantSheets" 289 "SlantSheets$Row" "bits" "I" ∈ bw := bw_t (i := 161) (by decide +kernel) rfl
theorem lf_SlantSheets_295 : Cond.fieldLink "SlantSheets" 295 "SlantSheets$Row" "numbers" "[I" ∈ bw := bw_t (i := 165) (by decide +kernel) rfl
theorem lf_SlantSheets_310 : Cond.fieldLink "SlantSheets" 310 "SlantSheets" "ABOVE" "[I" ∈ bw := bw_t (i := 696) (by decide +kernel) rfl
theorem lf_SlantSheets_Arrangement_9 : Cond.fieldLink "SlantSheets$Arrangement" 9 "SlantSheets$Arrangement" "row" "[I" ∈ bw := bw_t (i := 146) (by decide +kernel) rfl
theorem lf_SlantSheets_Arrangement_15 : Cond.fieldLink "SlantSheets$Arrangement" 15 "SlantSheets$Arrangement" "length" "I" ∈ bw := bw_t (i := 148) (by decide +kernel) rfl
theorem lf_SlantSheets_Row_9 : Cond.fieldLink "SlantSheets$Row" 9 "SlantSheets$Row" "bits" "I" ∈ bw := bw_t (i := 160) (by decide +kernel) rfl
theorem lf_SlantSheets_Row_15 : Cond.fieldLink "SlantSheets$Row" 15 "SlantSheets$Row" "length" "I" ∈ bw := bw_t (i := 162) (by decide +kernel) rfl
theorem lf_SlantSheets_Row_18 : Cond.fieldLink "SlantSheets$Row" 18 "SlantSheets$Row" "numbers" "[I" ∈ bw := bw_t (i := 164) (by decide +kernel) rfl
theorem lf_SlantSheets_Scene_9 : Cond.fieldLink "SlantSheets$Scene" 9 "SlantSheets$Scene" "sheets" "I" ∈ bw := bw_t (i := 36) (by decide +kernel) rfl
theorem lf_SlantSheets_Scene_15 : Cond.fieldLink "SlantSheets$Scene" 15 "SlantSheets$Scene" "kinds" "[I" ∈ bw := bw_t (i := 39) (by decide +kernel) rfl
theorem lf_SlantSheets_Scene_19 : Cond.fieldLink "SlantSheets$Scene" 19 "SlantSheets$Scene" "turns" "[I" ∈ bw := bw_t (i := 41) (by decide +kernel) rfl
theorem lf_SlantSheets_Scene_22 : Cond.fieldLink "SlantSheets$Scene" 22 "SlantSheets$Scene" "passes" "[I" ∈ bw := bw_t (i := 43) (by decide +kernel) rfl
theorem lf_SlantSheets_Scene_25 : Cond.fieldLink "SlantSheets$Scene" 25 "SlantSheets$Scene" "load" "I" ∈ bw := bw_t (i := 45) (by decide +kernel) rfl
theorem lf_SlantSheets_Scene_28 : Cond.fieldLink "SlantSheets$Scene" 28 "SlantSheets$Scene" "lampShare" "I" ∈ bw := bw_t (i := 48) (by decide +kernel) rfl
theorem lf_SlantSheets_Scene_31 : Cond.fieldLink "SlantSheets$Scene" 31 "SlantSheets$Scene" "lampSlant" "I" ∈ bw := bw_t (i := 51) (by decide +kernel) rfl
theorem lf_SlantSheets_Scene_36 : Cond.fieldLink "SlantSheets$Scene" 36 "SlantSheets$Scene" "stacks" "[[I" ∈ bw := bw_t (i := 54) (by decide +kernel) rfl
theorem lf_SlantSheets_Scene_39 : Cond.fieldLink "SlantSheets$Scene" 39 "SlantSheets$Scene" "heights" "[I" ∈ bw := bw_t (i := 56) (by decide +kernel) rfl
theorem lf_SlantSheets_Scene_42 : Cond.fieldLink "SlantSheets$Scene" 42 "SlantSheets$Scene" "looks" "I" ∈ bw := bw_t (i := 58) (by decide +kernel) rfl
theorem lf_SlantSheets_Scene_45 : Cond.fieldLink "SlantSheets$Scene" 45 "SlantSheets$Scene" "lookTilts" "[I" ∈ bw := bw_t (i := 60) (by decide +kernel) rfl
theorem lf_SlantSheets_Scene_48 : Cond.fieldLink "SlantSheets$Scene" 48 "SlantSheets$Scene" "lookViews" "[I" ∈ bw := bw_t (i := 61) (by decide +kernel) rfl
theorem lf_SlantSheets_Scene_51 : Cond.fieldLink "SlantSheets$Scene" 51 "SlantSheets$Scene" "z" "I" ∈ bw := bw_t (i := 62) (by decide +kernel) rfl
theorem lf_SlantSheets_Scene_54 : Cond.fieldLink "SlantSheets$Scene" 54 "SlantSheets$Scene" "spots" "[I" ∈ bw := bw_t (i := 64) (by decide +kernel) rfl
theorem lf_SlantSheets_Tape_9 : Cond.fieldLink "SlantSheets$Tape" 9 "SlantSheets$Tape" "bytes" "[B" ∈ bw := bw_t (i := 102) (by decide +kernel) rfl
theorem lf_SlantSheets_Tape_15 : Cond.fieldLink "SlantSheets$Tape" 15 "SlantSheets$Tape" "length" "I" ∈ bw := bw_t (i := 104) (by decide +kernel) rfl
theorem lf_SlantSheets_TextReader_9 : Cond.fieldLink "SlantSheets$TextReader" 9 "SlantSheets$TextReader" "numbers" "[I" ∈ bw := bw_t (i := 121) (by decide +kernel) rfl
theorem lf_SlantSheets_TextReader_15 : Cond.fieldLink "SlantSheets$TextReader" 15 "SlantSheets$TextReader" "type" "I" ∈ bw := bw_t (i := 122) (by decide +kernel) rfl
theorem lf_SlantSheets_TextReader_19 : Cond.fieldLink "SlantSheets$TextReader" 19 "SlantSheets$TextReader" "start" "I" ∈ bw := bw_t (i := 123) (by decide +kernel) rfl
theorem lf_SlantSheets_TextReader_22 : Cond.fieldLink "SlantSheets$TextReader" 22 "SlantSheets$TextReader" "end" "I" ∈ bw := bw_t (i := 124) (by decide +kernel) rfl
theorem lf_SlantSheets_TextReader_25 : Cond.fieldLink "SlantSheets$TextReader" 25 "SlantSheets$TextReader" "tape" "LSlantSheets$Tape;" ∈ bw := bw_t (i := 119) (by decide +kernel) rfl
theorem lf_SlantSheets_TextReader_29 : Cond.fieldLink "SlantSheets$TextReader" 29 "SlantSheets$TextReader" "scene" "LSlantSheets$Scene;" ∈ bw := bw_t (i := 120) (by decide +kernel) rfl
theorem lf_SlantSheets_TextReader_66 : Cond.fieldLink "SlantSheets$TextReader" 66 "SlantSheets$Scene" "sheets" "I" ∈ bw := bw_t (i := 38) (by decide +kernel) rfl
theorem lf_SlantSheets_TextReader_91 : Cond.fieldLink "SlantSheets$TextReader" 91 "SlantSheets$Scene" "lampShare" "I" ∈ bw := bw_t (i := 50) (by decide +kernel) rfl
theorem lf_SlantSheets_TextReader_94 : Cond.fieldLink "SlantSheets$TextReader" 94 "SlantSheets$Scene" "lampSlant" "I" ∈ bw := bw_t (i := 53) (by decide +kernel) rfl
theorem lf_SlantSheets_TextReader_97 : Cond.fieldLink "SlantSheets$TextReader" 97 "SlantSheets$Scene" "load" "I" ∈ bw := bw_t (i := 47) (by decide +kernel) rfl
theorem lf_SlantSheets_TextReader_125 : Cond.fieldLink "SlantSheets$TextReader" 125 "SlantSheets$Tape" "bytes" "[B" ∈ bw := bw_t (i := 103) (by decide +kernel) rfl
theorem lf_SlantSheets_TextReader_144 : Cond.fieldLink "SlantSheets$TextReader" 144 "SlantSheets$Tape" "length" "I" ∈ bw := bw_t (i := 105) (by decide +kernel) rfl
theorem lf_SlantSheetsModel_7 : Cond.fieldLink "SlantSheetsModel" 7 "SlantSheetsModel" "s" "[I" ∈ bw := bw_t (i := 771) (by decide +kernel) rfl
theorem lf_SlantSheetsModel_13 : Cond.fieldLink "SlantSheetsModel" 13 "SlantSheetsModel" "keptS" "[I" ∈ bw := bw_t (i := 772) (by decide +kernel) rfl
theorem lf_SlantSheetsModel_16 : Cond.fieldLink "SlantSheetsModel" 16 "SlantSheetsModel" "other" "[I" ∈ bw := bw_t (i := 773) (by decide +kernel) rfl
theorem lf_SlantSheetsModel_19 : Cond.fieldLink "SlantSheetsModel" 19 "SlantSheetsModel" "statuses" "[I" ∈ bw := bw_t (i := 774) (by decide +kernel) rfl
theorem lf_SlantSheetsModel_22 : Cond.fieldLink "SlantSheetsModel" 22 "SlantSheetsModel" "line" "[I" ∈ bw := bw_t (i := 776) (by decide +kernel) rfl
theorem lf_SlantSheetsModel_25 : Cond.fieldLink "SlantSheetsModel" 25 "SlantSheetsModel" "isThere" "[Z" ∈ bw := bw_t (i := 779) (by decide +kernel) rfl
theorem lf_SlantSheetsModel_29 : Cond.fieldLink "SlantSheetsModel" 29 "SlantSheetsModel" "sign" "[I" ∈ bw := bw_t (i := 780) (by decide +kernel) rfl
theorem lf_SlantSheetsModel_32 : Cond.fieldLink "SlantSheetsModel" 32 "SlantSheetsModel" "tilts" "[I" ∈ bw := bw_t (i := 781) (by decide +kernel) rfl
theorem lf_SlantSheetsModel_35 : Cond.fieldLink "SlantSheetsModel" 35 "SlantSheetsModel" "tape" "[I" ∈ bw := bw_t (i := 782) (by decide +kernel) rfl
theorem lf_SlantSheetsModel_38 : Cond.fieldLink "SlantSheetsModel" 38 "SlantSheetsModel" "bitsOf" "[I" ∈ bw := bw_t (i := 788) (by decide +kernel) rfl
theorem lf_SlantSheetsModel_41 : Cond.fieldLink "SlantSheetsModel" 41 "SlantSheetsModel" "sizeOf" "[I" ∈ bw := bw_t (i := 789) (by decide +kernel) rfl
theorem lf_SlantSheetsModel_44 : Cond.fieldLink "SlantSheetsModel" 44 "SlantSheetsModel" "number" "[I" ∈ bw := bw_t (i := 790) (by decide +kernel) rfl
theorem lf_SlantSheetsModel_47 : Cond.fieldLink "SlantSheetsModel" 47 "SlantSheetsModel" "moved" "[I" ∈ bw := bw_t (i := 791) (by decide +kernel) rfl
theorem lf_SlantSheetsModel_106 : Cond.fieldLink "SlantSheetsModel" 106 "SlantSheetsModel" "slant" "I" ∈ bw := bw_t (i := 778) (by decide +kernel) rfl
theorem lf_SlantSheetsModel_110 : Cond.fieldLink "SlantSheetsModel" 110 "SlantSheetsModel" "share" "I" ∈ bw := bw_t (i := 777) (by decide +kernel) rfl
theorem lf_SlantSheetsModel_191 : Cond.fieldLink "SlantSheetsModel" 191 "SlantSheetsModel" "taped" "I" ∈ bw := bw_t (i := 783) (by decide +kernel) rfl
theorem lf_SlantSheetsModel_202 : Cond.fieldLink "SlantSheetsModel" 202 "SlantSheetsModel" "to" "I" ∈ bw := bw_t (i := 785) (by decide +kernel) rfl
theorem lf_SlantSheetsModel_205 : Cond.fieldLink "SlantSheetsModel" 205 "SlantSheetsModel" "from" "I" ∈ bw := bw_t (i := 784) (by decide +kernel) rfl
theorem lf_SlantSheetsModel_217 : Cond.fieldLink "SlantSheetsModel" 217 "SlantSheetsModel" "isWrong" "Z" ∈ bw := bw_t (i := 787) (by decide +kernel) rfl
theorem lf_SlantSheetsModel_228 : Cond.fieldLink "SlantSheetsModel" 228 "SlantSheetsModel" "value" "I" ∈ bw := bw_t (i := 786) (by decide +kernel) rfl
theorem lf_SlantSheetsModel_297 : Cond.fieldLink "SlantSheetsModel" 297 "SlantSheetsModel" "isKept" "Z" ∈ bw := bw_t (i := 775) (by decide +kernel) rfl
theorem lf_java_lang_String_9 : Cond.fieldLink "java/lang/String" 9 "java/lang/String" "value" "[B" ∈ bw := bw_t (i := 1243) (by decide +kernel) rfl
theorem lf_java_lang_String_15 : Cond.fieldLink "java/lang/String" 15 "java/lang/String" "coder" "B" ∈ bw := bw_t (i := 1244) (by decide +kernel) rfl
theorem lf_java_lang_String_38 : Cond.fieldLink "java/lang/String" 38 "java/lang/String" "COMPACT_STRINGS" "Z" ∈ bw := bw_t (i := 595) (by decide +kernel) rfl
theorem lf_java_lang_String_1053 : Cond.fieldLink "java/lang/String" 1053 "jdk/internal/util/Preconditions" "SIOOBE_FORMATTER" "Ljava/util/function/BiFunction;" ∈ bw := bw_t (i := 611) (by decide +kernel) rfl
theorem lm_SlantSheets_75 : Cond.methodLink "SlantSheets" 75 xs_within.1 ∈ bw := bw_t (i := 220) (by decide +kernel) rfl
theorem lm_SlantSheets_79 : Cond.methodLink "SlantSheets" 79 xs_isShare.1 ∈ bw := bw_t (i := 223) (by decide +kernel) rfl
theorem lm_SlantSheets_84 : Cond.methodLink "SlantSheets" 84 xs_finding.1 ∈ bw := bw_t (i := 227) (by decide +kernel) rfl
theorem lm_SlantSheets_93 : Cond.methodLink "SlantSheets" 93 xg_addSheet.1 ∈ bw := bw_t (i := 232) (by decide +kernel) rfl
theorem lm_SlantSheets_97 : Cond.methodLink "SlantSheets" 97 xs_isSheet.1 ∈ bw := bw_t (i := 240) (by decide +kernel) rfl
theorem lm_SlantSheets_100 : Cond.methodLink "SlantSheets" 100 xg_property.1 ∈ bw := bw_t (i := 244) (by decide +kernel) rfl
theorem lm_SlantSheets_104 : Cond.methodLink "SlantSheets" 104 xs_isProperty.1 ∈ bw := bw_t (i := 252) (by decide +kernel) rfl
theorem lm_SlantSheets_107 : Cond.methodLink "SlantSheets" 107 xg_setProperty.1 ∈ bw := bw_t (i := 255) (by decide +kernel) rfl
theorem lm_SlantSheets_120 : Cond.methodLink "SlantSheets" 120 xs_isStack.1 ∈ bw := bw_t (i := 271) (by decide +kernel) rfl
theorem lm_SlantSheets_123 : Cond.methodLink "SlantSheets" 123 xg_hasRoom.1 ∈ bw := bw_t (i := 274) (by decide +kernel) rfl
theorem lm_SlantSheets_126 : Cond.methodLink "SlantSheets" 126 xg_put.1 ∈ bw := bw_t (i := 278) (by decide +kernel) rfl
theorem lm_SlantSheets_138 : Cond.methodLink "SlantSheets" 138 xg_setStack.1 ∈ bw := bw_t (i := 299) (by decide +kernel) rfl
theorem lm_SlantSheets_142 : Cond.methodLink "SlantSheets" 142 xg_lampLight.1 ∈ bw := bw_t (i := 310) (by decide +kernel) rfl
theorem lm_SlantSheets_146 : Cond.methodLink "SlantSheets" 146 xg_behindStack.1 ∈ bw := bw_t (i := 317) (by decide +kernel) rfl
theorem lm_SlantSheets_150 : Cond.methodLink "SlantSheets" 150 xl_share.1 ∈ bw := bw_t (i := 358) (by decide +kernel) rfl
theorem lm_SlantSheets_155 : Cond.methodLink "SlantSheets" 155 xl_slant.1 ∈ bw := bw_t (i := 359) (by decide +kernel) rfl
theorem lm_SlantSheets_158 : Cond.methodLink "SlantSheets" 158 xl_seenAt.1 ∈ bw := bw_t (i := 364) (by decide +kernel) rfl
theorem lm_SlantSheets_161 : Cond.methodLink "SlantSheets" 161 xg_frontLight.1 ∈ bw := bw_t (i := 377) (by decide +kernel) rfl
theorem lm_SlantSheets_164 : Cond.methodLink "SlantSheets" 164 xs_tiltsApart.1 ∈ bw := bw_t (i := 383) (by decide +kernel) rfl
theorem lm_SlantSheets_167 : Cond.methodLink "SlantSheets" 167 xl_ofSky.1 ∈ bw := bw_t (i := 393) (by decide +kernel) rfl
theorem lm_SlantSheets_170 : Cond.methodLink "SlantSheets" 170 xg_behindSheet.1 ∈ bw := bw_t (i := 408) (by decide +kernel) rfl
theorem lm_SlantSheets_173 : Cond.methodLink "SlantSheets" 173 xj_Math_abs.1 ∈ bw := bw_t (i := 386) (by decide +kernel) rfl
theorem lm_SlantSheets_179 : Cond.methodLink "SlantSheets" 179 xs_canBring.1 ∈ bw := bw_t (i := 414) (by decide +kernel) rfl
theorem lm_SlantSheets_186 : Cond.methodLink "SlantSheets" 186 xg_frontLightWithout.1 ∈ bw := bw_t (i := 425) (by decide +kernel) rfl
theorem lm_SlantSheets_192 : Cond.methodLink "SlantSheets" 192 xg_addLook.1 ∈ bw := bw_t (i := 433) (by decide +kernel) rfl
theorem lm_SlantSheets_195 : Cond.methodLink "SlantSheets" 195 xs_reckonOrderLights.1 ∈ bw := bw_t (i := 445) (by decide +kernel) rfl
theorem lm_SlantSheets_198 : Cond.methodLink "SlantSheets" 198 xg_fitsLooks.1 ∈ bw := bw_t (i := 465) (by decide +kernel) rfl
theorem lm_SlantSheets_201 : Cond.methodLink "SlantSheets" 201 xa_start.1 ∈ bw := bw_t (i := 449) (by decide +kernel) rfl
theorem lm_SlantSheets_211 : Cond.methodLink "SlantSheets" 211 xg_behindRow.1 ∈ bw := bw_t (i := 453) (by decide +kernel) rfl
theorem lm_SlantSheets_215 : Cond.methodLink "SlantSheets" 215 xa_advance.1 ∈ bw := bw_t (i := 457) (by decide +kernel) rfl
theorem lm_SlantSheets_219 : Cond.methodLink "SlantSheets" 219 xj_Arrays_fill.1 ∈ bw := bw_t (i := 478) (by decide +kernel) rfl
theorem lm_SlantSheets_224 : Cond.methodLink "SlantSheets" 224 xs_unlikeViews.1 ∈ bw := bw_t (i := 479) (by decide +kernel) rfl
theorem lm_SlantSheets_227 : Cond.methodLink "SlantSheets" 227 xs_reckonPartners.1 ∈ bw := bw_t (i := 487) (by decide +kernel) rfl
theorem lm_SlantSheets_230 : Cond.methodLink "SlantSheets" 230 xj_Integer_bitCount.1 ∈ bw := bw_t (i := 495) (by decide +kernel) rfl
theorem lm_SlantSheets_235 : Cond.methodLink "SlantSheets" 235 xs_areAllPartners.1 ∈ bw := bw_t (i := 505) (by decide +kernel) rfl
theorem lm_SlantSheets_238 : Cond.methodLink "SlantSheets" 238 xs_reckonTellingTilts.1 ∈ bw := bw_t (i := 513) (by decide +kernel) rfl
theorem lm_SlantSheets_241 : Cond.methodLink "SlantSheets" 241 xs_tellsAll.1 ∈ bw := bw_t (i := 517) (by decide +kernel) rfl
theorem lm_SlantSheets_250 : Cond.methodLink "SlantSheets" 250 xj_Math_max.1 ∈ bw := bw_t (i := 525) (by decide +kernel) rfl
theorem lm_SlantSheets_253 : Cond.methodLink "SlantSheets" 253 xg_draw.1 ∈ bw := bw_t (i := 528) (by decide +kernel) rfl
theorem lm_SlantSheets_261 : Cond.methodLink "SlantSheets" 261 xt_add.1 ∈ bw := bw_t (i := 546) (by decide +kernel) rfl
theorem lm_SlantSheets_265 : Cond.methodLink "SlantSheets" 265 xg_become.1 ∈ bw := bw_t (i := 558) (by decide +kernel) rfl
theorem lm_SlantSheets_269 : Cond.methodLink "SlantSheets" 269 xq_items.1 ∈ bw := bw_t (i := 563) (by decide +kernel) rfl
theorem lm_SlantSheets_276 : Cond.methodLink "SlantSheets" 276 xs_isUnder.1 ∈ bw := bw_t (i := 693) (by decide +kernel) rfl
theorem lm_SlantSheets_280 : Cond.methodLink "SlantSheets" 280 xr_become.1 ∈ bw := bw_t (i := 703) (by decide +kernel) rfl
theorem lm_SlantSheets_283 : Cond.methodLink "SlantSheets" 283 xr_isMissing.1 ∈ bw := bw_t (i := 712) (by decide +kernel) rfl
theorem lm_SlantSheets_286 : Cond.methodLink "SlantSheets" 286 xr_set.1 ∈ bw := bw_t (i := 716) (by decide +kernel) rfl
theorem lm_SlantSheets_292 : Cond.methodLink "SlantSheets" 292 xr_hasRange.1 ∈ bw := bw_t (i := 724) (by decide +kernel) rfl
theorem lm_SlantSheets_298 : Cond.methodLink "SlantSheets" 298 ⟨"java/lang/System", "arraycopy", "(Ljava/lang/Object;ILjava/lang/Object;II)V"⟩ ∈ bw := bw_t (i := 728) (by decide +kernel) rfl
theorem lm_SlantSheets_304 : Cond.methodLink "SlantSheets" 304 xg_sheetsInStacks.1 ∈ bw := bw_t (i := 753) (by decide +kernel) rfl
theorem lm_SlantSheets_307 : Cond.methodLink "SlantSheets" 307 xg_spotsInUse.1 ∈ bw := bw_t (i := 757) (by decide +kernel) rfl
theorem lm_SlantSheets_313 : Cond.methodLink "SlantSheets" 313 xs_reckonSoleLights.1 ∈ bw := bw_t (i := 491) (by decide +kernel) rfl
theorem lm_SlantSheets_Arrangement_19 : Cond.methodLink "SlantSheets$Arrangement" 19 xa_swap.1 ∈ bw := bw_t (i := 461) (by decide +kernel) rfl
theorem lm_SlantSheets_Light_9 : Cond.methodLink "SlantSheets$Light" 9 xl_of.1 ∈ bw := bw_t (i := 345) (by decide +kernel) rfl
theorem lm_SlantSheets_Light_15 : Cond.methodLink "SlantSheets$Light" 15 xj_Math_floorMod.1 ∈ bw := bw_t (i := 355) (by decide +kernel) rfl
theorem lm_SlantSheets_Light_24 : Cond.methodLink "SlantSheets$Light" 24 xl_slant.1 ∈ bw := bw_t (i := 331) (by decide +kernel) rfl
theorem lm_SlantSheets_Light_28 : Cond.methodLink "SlantSheets$Light" 28 xl_share.1 ∈ bw := bw_t (i := 334) (by decide +kernel) rfl
theorem lm_SlantSheets_Light_31 : Cond.methodLink "SlantSheets$Light" 31 xl_cos.1 ∈ bw := bw_t (i := 337) (by decide +kernel) rfl
theorem lm_SlantSheets_Light_34 : Cond.methodLink "SlantSheets$Light" 34 xl_part.1 ∈ bw := bw_t (i := 342) (by decide +kernel) rfl
theorem lm_SlantSheets_Light_37 : Cond.methodLink "SlantSheets$Light" 37 xl_seenAt.1 ∈ bw := bw_t (i := 328) (by decide +kernel) rfl
theorem lm_SlantSheets_Row_22 : Cond.methodLink "SlantSheets$Row" 22 xj_Arrays_fill.1 ∈ bw := bw_t (i := 707) (by decide +kernel) rfl
theorem lm_SlantSheets_Scene_63 : Cond.methodLink "SlantSheets$Scene" 63 ⟨"java/lang/System", "arraycopy", "(Ljava/lang/Object;ILjava/lang/Object;II)V"⟩ ∈ bw := bw_t (i := 303) (by decide +kernel) rfl
theorem lm_SlantSheets_Scene_69 : Cond.methodLink "SlantSheets$Scene" 69 xg_setStack.1 ∈ bw := bw_t (i := 562) (by decide +kernel) rfl
theorem lm_SlantSheets_Scene_73 : Cond.methodLink "SlantSheets$Scene" 73 xl_seenAt.1 ∈ bw := bw_t (i := 469) (by decide +kernel) rfl
theorem lm_SlantSheets_Scene_80 : Cond.methodLink "SlantSheets$Scene" 80 xl_of.1 ∈ bw := bw_t (i := 314) (by decide +kernel) rfl
theorem lm_SlantSheets_Scene_83 : Cond.methodLink "SlantSheets$Scene" 83 xl_filtered.1 ∈ bw := bw_t (i := 325) (by decide +kernel) rfl
theorem lm_SlantSheets_Scene_86 : Cond.methodLink "SlantSheets$Scene" 86 xl_dimmed.1 ∈ bw := bw_t (i := 346) (by decide +kernel) rfl
theorem lm_SlantSheets_Scene_89 : Cond.methodLink "SlantSheets$Scene" 89 xl_turned.1 ∈ bw := bw_t (i := 349) (by decide +kernel) rfl
theorem lm_SlantSheets_Scene_92 : Cond.methodLink "SlantSheets$Scene" 92 xl_mirrored.1 ∈ bw := bw_t (i := 352) (by decide +kernel) rfl
theorem lm_SlantSheets_Scene_95 : Cond.methodLink "SlantSheets$Scene" 95 xg_behindSheet.1 ∈ bw := bw_t (i := 321) (by decide +kernel) rfl
theorem lm_SlantSheets_Scene_99 : Cond.methodLink "SlantSheets$Scene" 99 xg_lampLight.1 ∈ bw := bw_t (i := 381) (by decide +kernel) rfl
theorem lm_SlantSheets_Scene_103 : Cond.methodLink "SlantSheets$Scene" 103 xg_behindStack.1 ∈ bw := bw_t (i := 382) (by decide +kernel) rfl
theorem lm_SlantSheets_TextReader_33 : Cond.methodLink "SlantSheets$TextReader" 33 xq_next.1 ∈ bw := bw_t (i := 567) (by decide +kernel) rfl
theorem lm_SlantSheets_TextReader_36 : Cond.methodLink "SlantSheets$TextReader" 36 xq_item.1 ∈ bw := bw_t (i := 574) (by decide +kernel) rfl
theorem lm_SlantSheets_TextReader_42 : Cond.methodLink "SlantSheets$TextReader" 42 xq_takeWord.1 ∈ bw := bw_t (i := 579) (by decide +kernel) rfl
theorem lm_SlantSheets_TextReader_46 : Cond.methodLink "SlantSheets$TextReader" 46 xq_stackItem.1 ∈ bw := bw_t (i := 635) (by decide +kernel) rfl
theorem lm_SlantSheets_TextReader_51 : Cond.methodLink "SlantSheets$TextReader" 51 xq_lampItem.1 ∈ bw := bw_t (i := 652) (by decide +kernel) rfl
theorem lm_SlantSheets_TextReader_56 : Cond.methodLink "SlantSheets$TextReader" 56 xq_loadItem.1 ∈ bw := bw_t (i := 659) (by decide +kernel) rfl
theorem lm_SlantSheets_TextReader_59 : Cond.methodLink "SlantSheets$TextReader" 59 xq_sheetItem.1 ∈ bw := bw_t (i := 663) (by decide +kernel) rfl
theorem lm_SlantSheets_TextReader_62 : Cond.methodLink "SlantSheets$TextReader" 62 xq_kindAtHand.1 ∈ bw := bw_t (i := 667) (by decide +kernel) rfl
theorem lm_SlantSheets_TextReader_73 : Cond.methodLink "SlantSheets$TextReader" 73 xq_takeNumber.1 ∈ bw := bw_t (i := 639) (by decide +kernel) rfl
theorem lm_SlantSheets_TextReader_79 : Cond.methodLink "SlantSheets$TextReader" 79 xg_addSheet.1 ∈ bw := bw_t (i := 683) (by decide +kernel) rfl
theorem lm_SlantSheets_TextReader_83 : Cond.methodLink "SlantSheets$TextReader" 83 xg_setStack.1 ∈ bw := bw_t (i := 650) (by decide +kernel) rfl
theorem lm_SlantSheets_TextReader_99 : Cond.methodLink "SlantSheets$TextReader" 99 xq_wordOf.1 ∈ bw := bw_t (i := 671) (by decide +kernel) rfl
theorem lm_SlantSheets_TextReader_103 : Cond.methodLink "SlantSheets$TextReader" 103 xq_isWord.1 ∈ bw := bw_t (i := 583) (by decide +kernel) rfl
theorem lm_SlantSheets_TextReader_120 : Cond.methodLink "SlantSheets$TextReader" 120 xj_String_length.1 ∈ bw := bw_t (i := 587) (by decide +kernel) rfl
theorem lm_SlantSheets_TextReader_131 : Cond.methodLink "SlantSheets$TextReader" 131 xj_String_charAt.1 ∈ bw := bw_t (i := 597) (by decide +kernel) rfl
theorem lm_SlantSheets_TextReader_135 : Cond.methodLink "SlantSheets$TextReader" 135 xq_numberAtHand.1 ∈ bw := bw_t (i := 643) (by decide +kernel) rfl
theorem lm_SlantSheets_TextReader_138 : Cond.methodLink "SlantSheets$TextReader" 138 xj_Math_min.1 ∈ bw := bw_t (i := 647) (by decide +kernel) rfl
theorem lm_SlantSheets_TextReader_146 : Cond.methodLink "SlantSheets$TextReader" 146 xq_typeOf.1 ∈ bw := bw_t (i := 571) (by decide +kernel) rfl
theorem lm_SlantSheetsLaw_13 : Cond.methodLink "SlantSheetsLaw" 13 xs_sheet.1 ∈ bw := bw_t (i := 216) (by decide +kernel) rfl
theorem lm_SlantSheetsLaw_17 : Cond.methodLink "SlantSheetsLaw" 17 xm_sheet.1 ∈ bw := bw_t (i := 836) (by decide +kernel) rfl
theorem lm_SlantSheetsLaw_18 : Cond.methodLink "SlantSheetsLaw" 18 xs_sheetOf.1 ∈ bw := bw_t (i := 236) (by decide +kernel) rfl
theorem lm_SlantSheetsLaw_22 : Cond.methodLink "SlantSheetsLaw" 22 xm_sheetOf.1 ∈ bw := bw_t (i := 865) (by decide +kernel) rfl
theorem lm_SlantSheetsLaw_23 : Cond.methodLink "SlantSheetsLaw" 23 xs_change.1 ∈ bw := bw_t (i := 248) (by decide +kernel) rfl
theorem lm_SlantSheetsLaw_26 : Cond.methodLink "SlantSheetsLaw" 26 xm_change.1 ∈ bw := bw_t (i := 874) (by decide +kernel) rfl
theorem lm_SlantSheetsLaw_27 : Cond.methodLink "SlantSheetsLaw" 27 xs_load.1 ∈ bw := bw_t (i := 259) (by decide +kernel) rfl
theorem lm_SlantSheetsLaw_31 : Cond.methodLink "SlantSheetsLaw" 31 xm_load.1 ∈ bw := bw_t (i := 878) (by decide +kernel) rfl
theorem lm_SlantSheetsLaw_32 : Cond.methodLink "SlantSheetsLaw" 32 xs_lamp.1 ∈ bw := bw_t (i := 263) (by decide +kernel) rfl
theorem lm_SlantSheetsLaw_35 : Cond.methodLink "SlantSheetsLaw" 35 xm_lamp.1 ∈ bw := bw_t (i := 882) (by decide +kernel) rfl
theorem lm_SlantSheetsLaw_36 : Cond.methodLink "SlantSheetsLaw" 36 xs_lay.1 ∈ bw := bw_t (i := 267) (by decide +kernel) rfl
theorem lm_SlantSheetsLaw_39 : Cond.methodLink "SlantSheetsLaw" 39 xm_lay.1 ∈ bw := bw_t (i := 886) (by decide +kernel) rfl
theorem lm_SlantSheetsLaw_40 : Cond.methodLink "SlantSheetsLaw" 40 xs_off.1 ∈ bw := bw_t (i := 282) (by decide +kernel) rfl
theorem lm_SlantSheetsLaw_43 : Cond.methodLink "SlantSheetsLaw" 43 xm_off.1 ∈ bw := bw_t (i := 902) (by decide +kernel) rfl
theorem lm_SlantSheetsLaw_44 : Cond.methodLink "SlantSheetsLaw" 44 xs_at.1 ∈ bw := bw_t (i := 287) (by decide +kernel) rfl
theorem lm_SlantSheetsLaw_47 : Cond.methodLink "SlantSheetsLaw" 47 xm_at.1 ∈ bw := bw_t (i := 911) (by decide +kernel) rfl
theorem lm_SlantSheetsLaw_48 : Cond.methodLink "SlantSheetsLaw" 48 xs_round.1 ∈ bw := bw_t (i := 291) (by decide +kernel) rfl
theorem lm_SlantSheetsLaw_51 : Cond.methodLink "SlantSheetsLaw" 51 xm_round.1 ∈ bw := bw_t (i := 916) (by decide +kernel) rfl
theorem lm_SlantSheetsLaw_52 : Cond.methodLink "SlantSheetsLaw" 52 xs_like.1 ∈ bw := bw_t (i := 295) (by decide +kernel) rfl
theorem lm_SlantSheetsLaw_55 : Cond.methodLink "SlantSheetsLaw" 55 xm_like.1 ∈ bw := bw_t (i := 920) (by decide +kernel) rfl
theorem lm_SlantSheetsLaw_56 : Cond.methodLink "SlantSheetsLaw" 56 xs_through.1 ∈ bw := bw_t (i := 306) (by decide +kernel) rfl
theorem lm_SlantSheetsLaw_60 : Cond.methodLink "SlantSheetsLaw" 60 xm_through.1 ∈ bw := bw_t (i := 924) (by decide +kernel) rfl
theorem lm_SlantSheetsLaw_61 : Cond.methodLink "SlantSheetsLaw" 61 xs_seen.1 ∈ bw := bw_t (i := 360) (by decide +kernel) rfl
theorem lm_SlantSheetsLaw_64 : Cond.methodLink "SlantSheetsLaw" 64 xm_seen.1 ∈ bw := bw_t (i := 951) (by decide +kernel) rfl
theorem lm_SlantSheetsLaw_65 : Cond.methodLink "SlantSheetsLaw" 65 xs_bright.1 ∈ bw := bw_t (i := 365) (by decide +kernel) rfl
theorem lm_SlantSheetsLaw_69 : Cond.methodLink "SlantSheetsLaw" 69 xm_bright.1 ∈ bw := bw_t (i := 959) (by decide +kernel) rfl
theorem lm_SlantSheetsLaw_70 : Cond.methodLink "SlantSheetsLaw" 70 xs_dark.1 ∈ bw := bw_t (i := 369) (by decide +kernel) rfl
theorem lm_SlantSheetsLaw_73 : Cond.methodLink "SlantSheetsLaw" 73 xm_dark.1 ∈ bw := bw_t (i := 963) (by decide +kernel) rfl
theorem lm_SlantSheetsLaw_74 : Cond.methodLink "SlantSheetsLaw" 74 xs_alike.1 ∈ bw := bw_t (i := 373) (by decide +kernel) rfl
theorem lm_SlantSheetsLaw_77 : Cond.methodLink "SlantSheetsLaw" 77 xm_alike.1 ∈ bw := bw_t (i := 967) (by decide +kernel) rfl
theorem lm_SlantSheetsLaw_78 : Cond.methodLink "SlantSheetsLaw" 78 xs_sky.1 ∈ bw := bw_t (i := 389) (by decide +kernel) rfl
theorem lm_SlantSheetsLaw_81 : Cond.methodLink "SlantSheetsLaw" 81 xm_sky.1 ∈ bw := bw_t (i := 978) (by decide +kernel) rfl
theorem lm_SlantSheetsLaw_82 : Cond.methodLink "SlantSheetsLaw" 82 xs_hours.1 ∈ bw := bw_t (i := 396) (by decide +kernel) rfl
theorem lm_SlantSheetsLaw_85 : Cond.methodLink "SlantSheetsLaw" 85 xm_hours.1 ∈ bw := bw_t (i := 988) (by decide +kernel) rfl
theorem lm_SlantSheetsLaw_86 : Cond.methodLink "SlantSheetsLaw" 86 xs_loads.1 ∈ bw := bw_t (i := 400) (by decide +kernel) rfl
theorem lm_SlantSheetsLaw_89 : Cond.methodLink "SlantSheetsLaw" 89 xm_loads.1 ∈ bw := bw_t (i := 992) (by decide +kernel) rfl
theorem lm_SlantSheetsLaw_90 : Cond.methodLink "SlantSheetsLaw" 90 xs_nearest.1 ∈ bw := bw_t (i := 404) (by decide +kernel) rfl
theorem lm_SlantSheetsLaw_93 : Cond.methodLink "SlantSheetsLaw" 93 xm_nearest.1 ∈ bw := bw_t (i := 996) (by decide +kernel) rfl
theorem lm_SlantSheetsLaw_94 : Cond.methodLink "SlantSheetsLaw" 94 xs_fewest.1 ∈ bw := bw_t (i := 409) (by decide +kernel) rfl
theorem lm_SlantSheetsLaw_97 : Cond.methodLink "SlantSheetsLaw" 97 xm_fewest.1 ∈ bw := bw_t (i := 1004) (by decide +kernel) rfl
theorem lm_SlantSheetsLaw_98 : Cond.methodLink "SlantSheetsLaw" 98 xs_turnFor.1 ∈ bw := bw_t (i := 417) (by decide +kernel) rfl
theorem lm_SlantSheetsLaw_101 : Cond.methodLink "SlantSheetsLaw" 101 xm_turnFor.1 ∈ bw := bw_t (i := 1009) (by decide +kernel) rfl
theorem lm_SlantSheetsLaw_102 : Cond.methodLink "SlantSheetsLaw" 102 xs_spare.1 ∈ bw := bw_t (i := 421) (by decide +kernel) rfl
theorem lm_SlantSheetsLaw_105 : Cond.methodLink "SlantSheetsLaw" 105 xm_spare.1 ∈ bw := bw_t (i := 1013) (by decide +kernel) rfl
theorem lm_SlantSheetsLaw_106 : Cond.methodLink "SlantSheetsLaw" 106 xs_look.1 ∈ bw := bw_t (i := 429) (by decide +kernel) rfl
theorem lm_SlantSheetsLaw_109 : Cond.methodLink "SlantSheetsLaw" 109 xm_look.1 ∈ bw := bw_t (i := 1017) (by decide +kernel) rfl
theorem lm_SlantSheetsLaw_110 : Cond.methodLink "SlantSheetsLaw" 110 xs_clear.1 ∈ bw := bw_t (i := 437) (by decide +kernel) rfl
theorem lm_SlantSheetsLaw_114 : Cond.methodLink "SlantSheetsLaw" 114 xm_clear.1 ∈ bw := bw_t (i := 1021) (by decide +kernel) rfl
theorem lm_SlantSheetsLaw_115 : Cond.methodLink "SlantSheetsLaw" 115 xs_orders.1 ∈ bw := bw_t (i := 441) (by decide +kernel) rfl
theorem lm_SlantSheetsLaw_118 : Cond.methodLink "SlantSheetsLaw" 118 xm_orders.1 ∈ bw := bw_t (i := 1025) (by decide +kernel) rfl
theorem lm_SlantSheetsLaw_119 : Cond.methodLink "SlantSheetsLaw" 119 xs_order.1 ∈ bw := bw_t (i := 470) (by decide +kernel) rfl
theorem lm_SlantSheetsLaw_122 : Cond.methodLink "SlantSheetsLaw" 122 xm_order.1 ∈ bw := bw_t (i := 1045) (by decide +kernel) rfl
theorem lm_SlantSheetsLaw_123 : Cond.methodLink "SlantSheetsLaw" 123 xs_apart.1 ∈ bw := bw_t (i := 474) (by decide +kernel) rfl
theorem lm_SlantSheetsLaw_126 : Cond.methodLink "SlantSheetsLaw" 126 xm_apart.1 ∈ bw := bw_t (i := 1049) (by decide +kernel) rfl
theorem lm_SlantSheetsLaw_127 : Cond.methodLink "SlantSheetsLaw" 127 xs_pairs.1 ∈ bw := bw_t (i := 483) (by decide +kernel) rfl
theorem lm_SlantSheetsLaw_130 : Cond.methodLink "SlantSheetsLaw" 130 xm_pairs.1 ∈ bw := bw_t (i := 1053) (by decide +kernel) rfl
theorem lm_SlantSheetsLaw_131 : Cond.methodLink "SlantSheetsLaw" 131 xs_signs.1 ∈ bw := bw_t (i := 501) (by decide +kernel) rfl
theorem lm_SlantSheetsLaw_134 : Cond.methodLink "SlantSheetsLaw" 134 xm_signs.1 ∈ bw := bw_t (i := 1065) (by decide +kernel) rfl
theorem lm_SlantSheetsLaw_135 : Cond.methodLink "SlantSheetsLaw" 135 xs_eyes.1 ∈ bw := bw_t (i := 509) (by decide +kernel) rfl
theorem lm_SlantSheetsLaw_138 : Cond.methodLink "SlantSheetsLaw" 138 xm_eyes.1 ∈ bw := bw_t (i := 1079) (by decide +kernel) rfl
theorem lm_SlantSheetsLaw_139 : Cond.methodLink "SlantSheetsLaw" 139 xs_years.1 ∈ bw := bw_t (i := 521) (by decide +kernel) rfl
theorem lm_SlantSheetsLaw_142 : Cond.methodLink "SlantSheetsLaw" 142 xm_years.1 ∈ bw := bw_t (i := 1083) (by decide +kernel) rfl
theorem lm_SlantSheetsLaw_143 : Cond.methodLink "SlantSheetsLaw" 143 xs_drawn.1 ∈ bw := bw_t (i := 533) (by decide +kernel) rfl
theorem lm_SlantSheetsLaw_146 : Cond.methodLink "SlantSheetsLaw" 146 xm_drawn.1 ∈ bw := bw_t (i := 1093) (by decide +kernel) rfl
theorem lm_SlantSheetsLaw_147 : Cond.methodLink "SlantSheetsLaw" 147 xs_seed.1 ∈ bw := bw_t (i := 538) (by decide +kernel) rfl
theorem lm_SlantSheetsLaw_150 : Cond.methodLink "SlantSheetsLaw" 150 xm_seed.1 ∈ bw := bw_t (i := 1098) (by decide +kernel) rfl
theorem lm_SlantSheetsLaw_151 : Cond.methodLink "SlantSheetsLaw" 151 xs_feed.1 ∈ bw := bw_t (i := 542) (by decide +kernel) rfl
theorem lm_SlantSheetsLaw_154 : Cond.methodLink "SlantSheetsLaw" 154 xm_feed.1 ∈ bw := bw_t (i := 1102) (by decide +kernel) rfl
theorem lm_SlantSheetsLaw_155 : Cond.methodLink "SlantSheetsLaw" 155 xs_wipe.1 ∈ bw := bw_t (i := 550) (by decide +kernel) rfl
theorem lm_SlantSheetsLaw_158 : Cond.methodLink "SlantSheetsLaw" 158 xm_wipe.1 ∈ bw := bw_t (i := 1107) (by decide +kernel) rfl
theorem lm_SlantSheetsLaw_159 : Cond.methodLink "SlantSheetsLaw" 159 xs_text.1 ∈ bw := bw_t (i := 554) (by decide +kernel) rfl
theorem lm_SlantSheetsLaw_162 : Cond.methodLink "SlantSheetsLaw" 162 xm_text.1 ∈ bw := bw_t (i := 1111) (by decide +kernel) rfl
theorem lm_SlantSheetsLaw_163 : Cond.methodLink "SlantSheetsLaw" 163 xs_hold.1 ∈ bw := bw_t (i := 684) (by decide +kernel) rfl
theorem lm_SlantSheetsLaw_166 : Cond.methodLink "SlantSheetsLaw" 166 xm_hold.1 ∈ bw := bw_t (i := 1181) (by decide +kernel) rfl
theorem lm_SlantSheetsLaw_167 : Cond.methodLink "SlantSheetsLaw" 167 xs_as.1 ∈ bw := bw_t (i := 688) (by decide +kernel) rfl
theorem lm_SlantSheetsLaw_170 : Cond.methodLink "SlantSheetsLaw" 170 xm_as.1 ∈ bw := bw_t (i := 1186) (by decide +kernel) rfl
theorem lm_SlantSheetsLaw_171 : Cond.methodLink "SlantSheetsLaw" 171 xs_row.1 ∈ bw := bw_t (i := 699) (by decide +kernel) rfl
theorem lm_SlantSheetsLaw_174 : Cond.methodLink "SlantSheetsLaw" 174 xm_row.1 ∈ bw := bw_t (i := 1192) (by decide +kernel) rfl
theorem lm_SlantSheetsLaw_175 : Cond.methodLink "SlantSheetsLaw" 175 xs_write.1 ∈ bw := bw_t (i := 708) (by decide +kernel) rfl
theorem lm_SlantSheetsLaw_178 : Cond.methodLink "SlantSheetsLaw" 178 xm_write.1 ∈ bw := bw_t (i := 1199) (by decide +kernel) rfl
theorem lm_SlantSheetsLaw_179 : Cond.methodLink "SlantSheetsLaw" 179 xs_copy.1 ∈ bw := bw_t (i := 720) (by decide +kernel) rfl
theorem lm_SlantSheetsLaw_183 : Cond.methodLink "SlantSheetsLaw" 183 xm_copy.1 ∈ bw := bw_t (i := 1210) (by decide +kernel) rfl
theorem lm_SlantSheetsLaw_184 : Cond.methodLink "SlantSheetsLaw" 184 xs_from.1 ∈ bw := bw_t (i := 729) (by decide +kernel) rfl
theorem lm_SlantSheetsLaw_187 : Cond.methodLink "SlantSheetsLaw" 187 xm_from.1 ∈ bw := bw_t (i := 1214) (by decide +kernel) rfl
theorem lm_SlantSheetsLaw_188 : Cond.methodLink "SlantSheetsLaw" 188 xs_judge.1 ∈ bw := bw_t (i := 733) (by decide +kernel) rfl
theorem lm_SlantSheetsLaw_191 : Cond.methodLink "SlantSheetsLaw" 191 xm_judge.1 ∈ bw := bw_t (i := 1218) (by decide +kernel) rfl
theorem lm_SlantSheetsLaw_192 : Cond.methodLink "SlantSheetsLaw" 192 xs_image.1 ∈ bw := bw_t (i := 737) (by decide +kernel) rfl
theorem lm_SlantSheetsLaw_195 : Cond.methodLink "SlantSheetsLaw" 195 xm_image.1 ∈ bw := bw_t (i := 1222) (by decide +kernel) rfl
theorem lm_SlantSheetsLaw_196 : Cond.methodLink "SlantSheetsLaw" 196 xs_undo.1 ∈ bw := bw_t (i := 741) (by decide +kernel) rfl
theorem lm_SlantSheetsLaw_199 : Cond.methodLink "SlantSheetsLaw" 199 xm_undo.1 ∈ bw := bw_t (i := 1226) (by decide +kernel) rfl
theorem lm_SlantSheetsLaw_200 : Cond.methodLink "SlantSheetsLaw" 200 xs_tear.1 ∈ bw := bw_t (i := 745) (by decide +kernel) rfl
theorem lm_SlantSheetsLaw_203 : Cond.methodLink "SlantSheetsLaw" 203 xm_tear.1 ∈ bw := bw_t (i := 1230) (by decide +kernel) rfl
theorem lm_SlantSheetsLaw_204 : Cond.methodLink "SlantSheetsLaw" 204 xs_count.1 ∈ bw := bw_t (i := 749) (by decide +kernel) rfl
theorem lm_SlantSheetsLaw_207 : Cond.methodLink "SlantSheetsLaw" 207 xm_count.1 ∈ bw := bw_t (i := 1234) (by decide +kernel) rfl
theorem lm_SlantSheetsLaw_208 : Cond.methodLink "SlantSheetsLaw" 208 xs_status.1 ∈ bw := bw_t (i := 761) (by decide +kernel) rfl
theorem lm_SlantSheetsLaw_211 : Cond.methodLink "SlantSheetsLaw" 211 xm_status.1 ∈ bw := bw_t (i := 1238) (by decide +kernel) rfl
theorem lm_SlantSheetsModel_53 : Cond.methodLink "SlantSheetsModel" 53 xm_in.1 ∈ bw := bw_t (i := 844) (by decide +kernel) rfl
theorem lm_SlantSheetsModel_64 : Cond.methodLink "SlantSheetsModel" 64 xm_isSlant.1 ∈ bw := bw_t (i := 847) (by decide +kernel) rfl
theorem lm_SlantSheetsModel_68 : Cond.methodLink "SlantSheetsModel" 68 xm_isShare.1 ∈ bw := bw_t (i := 851) (by decide +kernel) rfl
theorem lm_SlantSheetsModel_71 : Cond.methodLink "SlantSheetsModel" 71 xm_isPart.1 ∈ bw := bw_t (i := 840) (by decide +kernel) rfl
theorem lm_SlantSheetsModel_75 : Cond.methodLink "SlantSheetsModel" 75 xm_finds.1 ∈ bw := bw_t (i := 856) (by decide +kernel) rfl
theorem lm_SlantSheetsModel_80 : Cond.methodLink "SlantSheetsModel" 80 xm_newSheet.1 ∈ bw := bw_t (i := 861) (by decide +kernel) rfl
theorem lm_SlantSheetsModel_84 : Cond.methodLink "SlantSheetsModel" 84 xm_isSheet.1 ∈ bw := bw_t (i := 869) (by decide +kernel) rfl
theorem lm_SlantSheetsModel_89 : Cond.methodLink "SlantSheetsModel" 89 xm_isStack.1 ∈ bw := bw_t (i := 890) (by decide +kernel) rfl
theorem lm_SlantSheetsModel_92 : Cond.methodLink "SlantSheetsModel" 92 xm_manyIn.1 ∈ bw := bw_t (i := 894) (by decide +kernel) rfl
theorem lm_SlantSheetsModel_95 : Cond.methodLink "SlantSheetsModel" 95 xm_lays.1 ∈ bw := bw_t (i := 898) (by decide +kernel) rfl
theorem lm_SlantSheetsModel_100 : Cond.methodLink "SlantSheetsModel" 100 xm_sheetIn.1 ∈ bw := bw_t (i := 907) (by decide +kernel) rfl
theorem lm_SlantSheetsModel_113 : Cond.methodLink "SlantSheetsModel" 113 xm_cos.1 ∈ bw := bw_t (i := 944) (by decide +kernel) rfl
theorem lm_SlantSheetsModel_116 : Cond.methodLink "SlantSheetsModel" 116 xm_filters.1 ∈ bw := bw_t (i := 940) (by decide +kernel) rfl
theorem lm_SlantSheetsModel_120 : Cond.methodLink "SlantSheetsModel" 120 xm_turns.1 ∈ bw := bw_t (i := 947) (by decide +kernel) rfl
theorem lm_SlantSheetsModel_123 : Cond.methodLink "SlantSheetsModel" 123 xm_goes.1 ∈ bw := bw_t (i := 936) (by decide +kernel) rfl
theorem lm_SlantSheetsModel_127 : Cond.methodLink "SlantSheetsModel" 127 xm_lights.1 ∈ bw := bw_t (i := 928) (by decide +kernel) rfl
theorem lm_SlantSheetsModel_130 : Cond.methodLink "SlantSheetsModel" 130 xm_goesThrough.1 ∈ bw := bw_t (i := 932) (by decide +kernel) rfl
theorem lm_SlantSheetsModel_133 : Cond.methodLink "SlantSheetsModel" 133 xm_seenAt.1 ∈ bw := bw_t (i := 955) (by decide +kernel) rfl
theorem lm_SlantSheetsModel_136 : Cond.methodLink "SlantSheetsModel" 136 xm_seenThrough.1 ∈ bw := bw_t (i := 971) (by decide +kernel) rfl
theorem lm_SlantSheetsModel_139 : Cond.methodLink "SlantSheetsModel" 139 xm_size.1 ∈ bw := bw_t (i := 975) (by decide +kernel) rfl
theorem lm_SlantSheetsModel_146 : Cond.methodLink "SlantSheetsModel" 146 xm_shines.1 ∈ bw := bw_t (i := 983) (by decide +kernel) rfl
theorem lm_SlantSheetsModel_149 : Cond.methodLink "SlantSheetsModel" 149 xm_seenWith.1 ∈ bw := bw_t (i := 1000) (by decide +kernel) rfl
theorem lm_SlantSheetsModel_154 : Cond.methodLink "SlantSheetsModel" 154 xm_goesOrder.1 ∈ bw := bw_t (i := 1037) (by decide +kernel) rfl
theorem lm_SlantSheetsModel_157 : Cond.methodLink "SlantSheetsModel" 157 xm_firstOrder.1 ∈ bw := bw_t (i := 1029) (by decide +kernel) rfl
theorem lm_SlantSheetsModel_160 : Cond.methodLink "SlantSheetsModel" 160 xm_isFit.1 ∈ bw := bw_t (i := 1033) (by decide +kernel) rfl
theorem lm_SlantSheetsModel_163 : Cond.methodLink "SlantSheetsModel" 163 xm_nextOrder.1 ∈ bw := bw_t (i := 1041) (by decide +kernel) rfl
theorem lm_SlantSheetsModel_166 : Cond.methodLink "SlantSheetsModel" 166 xm_findSigns.1 ∈ bw := bw_t (i := 1057) (by decide +kernel) rfl
theorem lm_SlantSheetsModel_169 : Cond.methodLink "SlantSheetsModel" 169 xm_areApart.1 ∈ bw := bw_t (i := 1061) (by decide +kernel) rfl
theorem lm_SlantSheetsModel_173 : Cond.methodLink "SlantSheetsModel" 173 xm_has.1 ∈ bw := bw_t (i := 1076) (by decide +kernel) rfl
theorem lm_SlantSheetsModel_176 : Cond.methodLink "SlantSheetsModel" 176 xm_ones.1 ∈ bw := bw_t (i := 1069) (by decide +kernel) rfl
theorem lm_SlantSheetsModel_179 : Cond.methodLink "SlantSheetsModel" 179 xm_areSigns.1 ∈ bw := bw_t (i := 1072) (by decide +kernel) rfl
theorem lm_SlantSheetsModel_184 : Cond.methodLink "SlantSheetsModel" 184 xm_next.1 ∈ bw := bw_t (i := 1088) (by decide +kernel) rfl
theorem lm_SlantSheetsModel_208 : Cond.methodLink "SlantSheetsModel" 208 xm_byteAt.1 ∈ bw := bw_t (i := 1119) (by decide +kernel) rfl
theorem lm_SlantSheetsModel_211 : Cond.methodLink "SlantSheetsModel" 211 xm_isLetter.1 ∈ bw := bw_t (i := 1123) (by decide +kernel) rfl
theorem lm_SlantSheetsModel_214 : Cond.methodLink "SlantSheetsModel" 214 xm_isDigit.1 ∈ bw := bw_t (i := 1128) (by decide +kernel) rfl
theorem lm_SlantSheetsModel_221 : Cond.methodLink "SlantSheetsModel" 221 xm_token.1 ∈ bw := bw_t (i := 1115) (by decide +kernel) rfl
theorem lm_SlantSheetsModel_231 : Cond.methodLink "SlantSheetsModel" 231 xm_needs.1 ∈ bw := bw_t (i := 1158) (by decide +kernel) rfl
theorem lm_SlantSheetsModel_235 : Cond.methodLink "SlantSheetsModel" 235 xm_word.1 ∈ bw := bw_t (i := 1141) (by decide +kernel) rfl
theorem lm_SlantSheetsModel_255 : Cond.methodLink "SlantSheetsModel" 255 xm_number.1 ∈ bw := bw_t (i := 1163) (by decide +kernel) rfl
theorem lm_SlantSheetsModel_263 : Cond.methodLink "SlantSheetsModel" 263 xm_kindHere.1 ∈ bw := bw_t (i := 1137) (by decide +kernel) rfl
theorem lm_SlantSheetsModel_266 : Cond.methodLink "SlantSheetsModel" 266 xm_sheetItem.1 ∈ bw := bw_t (i := 1154) (by decide +kernel) rfl
theorem lm_SlantSheetsModel_271 : Cond.methodLink "SlantSheetsModel" 271 xm_stackItem.1 ∈ bw := bw_t (i := 1169) (by decide +kernel) rfl
theorem lm_SlantSheetsModel_276 : Cond.methodLink "SlantSheetsModel" 276 xm_lampItem.1 ∈ bw := bw_t (i := 1174) (by decide +kernel) rfl
theorem lm_SlantSheetsModel_281 : Cond.methodLink "SlantSheetsModel" 281 xm_item.1 ∈ bw := bw_t (i := 1133) (by decide +kernel) rfl
theorem lm_SlantSheetsModel_288 : Cond.methodLink "SlantSheetsModel" 288 xm_isOne.1 ∈ bw := bw_t (i := 1196) (by decide +kernel) rfl
theorem lm_SlantSheetsModel_291 : Cond.methodLink "SlantSheetsModel" 291 xm_wrong.1 ∈ bw := bw_t (i := 1203) (by decide +kernel) rfl
theorem lm_SlantSheetsModel_294 : Cond.methodLink "SlantSheetsModel" 294 xm_narrowed.1 ∈ bw := bw_t (i := 1207) (by decide +kernel) rfl
theorem lm_java_lang_String_335 : Cond.methodLink "java/lang/String" 335 xj_String_coder.1 ∈ bw := bw_t (i := 591) (by decide +kernel) rfl
theorem lm_java_lang_String_492 : Cond.methodLink "java/lang/String" 492 xj_String_isLatin1.1 ∈ bw := bw_t (i := 601) (by decide +kernel) rfl
theorem lm_java_lang_String_495 : Cond.methodLink "java/lang/String" 495 xj_StringLatin1_charAt.1 ∈ bw := bw_t (i := 605) (by decide +kernel) rfl
theorem lm_java_lang_String_1059 : Cond.methodLink "java/lang/String" 1059 xj_Preconditions_checkIndex.1 ∈ bw := bw_t (i := 613) (by decide +kernel) rfl
theorem lm_java_lang_StringLatin1_9 : Cond.methodLink "java/lang/StringLatin1" 9 xj_String_checkIndex.1 ∈ bw := bw_t (i := 608) (by decide +kernel) rfl
theorem iRd (n : Int) (h : (decide (-2147483648 ≤ n) && decide (n < 2147483648)) = true) : iR n := by simp only [Bool.and_eq_true, decide_eq_true_eq] at h; exact h
theorem lRd (n : Int) (h : (decide (-9223372036854775808 ≤ n) && decide (n < 9223372036854775808)) = true) : lR n := by simp only [Bool.and_eq_true, decide_eq_true_eq] at h; exact h
