/-! a State is copied; acts are kept, taken back -/
def tfA : List Nat := [28, 35, 42, 49, 56, 63, 70, 77, 84, 91, 98, 105, 112, 119, 126, 133, 140, 147, 154, 161, 168, 175, 182, 189, 196, 203, 210, 217, 224, 231, 238, 245, 252, 259, 266, 273, 280, 287, 294, 301]
def tfB : List Nat := [324, 331, 338, 345, 352, 359, 366, 373, 380, 387, 394, 401, 408, 415, 422, 429, 436, 443, 450, 457, 464, 471, 478, 485, 492, 499, 506, 513, 520, 527, 534, 541, 548, 555, 562, 569, 576, 583, 590, 597]
def tfL : List (Nat × Nat) := [(28, 15), (35, 15), (42, 15), (49, 15), (56, 15), (63, 15), (70, 15), (77, 15), (84, 15), (91, 15), (98, 15), (105, 15), (112, 15), (119, 15), (126, 15), (133, 15), (140, 15), (147, 15), (154, 15), (161, 15), (168, 15), (175, 15), (182, 15), (189, 15), (196, 15), (203, 15), (210, 15), (217, 15), (224, 15), (231, 15), (238, 15), (245, 15), (252, 15), (259, 15), (266, 15), (273, 15), (280, 15), (287, 15), (294, 15), (301, 15), (15, 28), (15, 35), (15, 42), (15, 49), (15, 56), (15, 63), (15, 70), (15, 77), (15, 84), (15, 91), (15, 98), (15, 105), (15, 112), (15, 119), (15, 126), (15, 133), (15, 140), (15, 147), (15, 154), (15, 161), (15, 168), (15, 175), (15, 182), (15, 189), (15, 196), (15, 203), (15, 210), (15, 217), (15, 224), (15, 231), (15, 238), (15, 245), (15, 252), (15, 259), (15, 266), (15, 273), (15, 280), (15, 287), (15, 294), (15, 301), (28, 324), (35, 331), (42, 338), (49, 345), (56, 352), (63, 359), (70, 366), (77, 373), (84, 380), (91, 387), (98, 394), (105, 401), (112, 408), (119, 415), (126, 422), (133, 429), (140, 436), (147, 443), (154, 450), (161, 457), (168, 464), (175, 471), (182, 478), (189, 485), (196, 492), (203, 499), (210, 506), (217, 513), (224, 520), (231, 527), (238, 534), (245, 541), (252, 548), (259, 555), (266, 562), (273, 569), (280, 576), (287, 583), (294, 590), (301, 597), (324, 28), (331, 35), (338, 42), (345, 49), (352, 56), (359, 63), (366, 70), (373, 77), (380, 84), (387, 91), (394, 98), (401, 105), (408, 112), (415, 119), (422, 126), (429, 133), (436, 140), (443, 147), (450, 154), (457, 161), (464, 168), (471, 175), (478, 182), (485, 189), (492, 196), (499, 203), (506, 210), (513, 217), (520, 224), (527, 231), (534, 238), (541, 245), (548, 252), (555, 259), (562, 266), (569, 273), (576, 280), (583, 287), (590, 294), (597, 301), (604, 15), (15, 604), (315, 15), (15, 315)]
def sg_tf_0P (p : Nat × Nat) : Prop := ∀ (D : Nat → Int → Int) (X : cm_X) (x : Int), cm_x 62 0 [some (.inr (.inr p.1)), some (.inr (.inr p.2)), none] [] (cm_hp D X) = cm_x 62 32 [some (.inr (.inr p.1)), some (.inr (.inr p.2)), some (.inl 0)] [] (cm_hp (cm_ua (cm_ua D (p.1 + 1) (cm_cp (D (p.2 + 1)) (D (p.1 + 1)) 0 0 12)) (p.1 + 2) (cm_cp (D (p.2 + 2)) (D (p.1 + 2)) 0 0 12)) X)
theorem sg_tf_0_0 : sg_tf_0P (28, 15) := fun D X x => (cm_un_eq [32] 62 20 0 _ _ _).symm.trans rfl
theorem sg_tf_0_1 : sg_tf_0P (35, 15) := fun D X x => (cm_un_eq [32] 62 20 0 _ _ _).symm.trans rfl
theorem sg_tf_0_2 : sg_tf_0P (42, 15) := fun D X x => (cm_un_eq [32] 62 20 0 _ _ _).symm.trans rfl
theorem sg_tf_0_3 : sg_tf_0P (49, 15) := fun D X x => (cm_un_eq [32] 62 20 0 _ _ _).symm.trans rfl
theorem sg_tf_0_4 : sg_tf_0P (56, 15) := fun D X x => (cm_un_eq [32] 62 20 0 _ _ _).symm.trans rfl
theorem sg_tf_0_5 : sg_tf_0P (63, 15) := fun D X x => (cm_un_eq [32] 62 20 0 _ _ _).symm.trans rfl
theorem sg_tf_0_6 : sg_tf_0P (70, 15) := fun D X x => (cm_un_eq [32] 62 20 0 _ _ _).symm.trans rfl
theorem sg_tf_0_7 : sg_tf_0P (77, 15) := fun D X x => (cm_un_eq [32] 62 20 0 _ _ _).symm.trans rfl
theorem sg_tf_0_8 : sg_tf_0P (84, 15) := fun D X x => (cm_un_eq [32] 62 20 0 _ _ _).symm.trans rfl
theorem sg_tf_0_9 : sg_tf_0P (91, 15) := fun D X x => (cm_un_eq [32] 62 20 0 _ _ _).symm.trans rfl
theorem sg_tf_0_10 : sg_tf_0P (98, 15) := fun D X x => (cm_un_eq [32] 62 20 0 _ _ _).symm.trans rfl
theorem sg_tf_0_11 : sg_tf_0P (105, 15) := fun D X x => (cm_un_eq [32] 62 20 0 _ _ _).symm.trans rfl
theorem sg_tf_0_12 : sg_tf_0P (112, 15) := fun D X x => (cm_un_eq [32] 62 20 0 _ _ _).symm.trans rfl
theorem sg_tf_0_13 : sg_tf_0P (119, 15) := fun D X x => (cm_un_eq [32] 62 20 0 _ _ _).symm.trans rfl
theorem sg_tf_0_14 : sg_tf_0P (126, 15) := fun D X x => (cm_un_eq [32] 62 20 0 _ _ _).symm.trans rfl
theorem sg_tf_0_15 : sg_tf_0P (133, 15) := fun D X x => (cm_un_eq [32] 62 20 0 _ _ _).symm.trans rfl
theorem sg_tf_0_16 : sg_tf_0P (140, 15) := fun D X x => (cm_un_eq [32] 62 20 0 _ _ _).symm.trans rfl
theorem sg_tf_0_17 : sg_tf_0P (147, 15) := fun D X x => (cm_un_eq [32] 62 20 0 _ _ _).symm.trans rfl
theorem sg_tf_0_18 : sg_tf_0P (154, 15) := fun D X x => (cm_un_eq [32] 62 20 0 _ _ _).symm.trans rfl
theorem sg_tf_0_19 : sg_tf_0P (161, 15) := fun D X x => (cm_un_eq [32] 62 20 0 _ _ _).symm.trans rfl
theorem sg_tf_0_20 : sg_tf_0P (168, 15) := fun D X x => (cm_un_eq [32] 62 20 0 _ _ _).symm.trans rfl
theorem sg_tf_0_21 : sg_tf_0P (175, 15) := fun D X x => (cm_un_eq [32] 62 20 0 _ _ _).symm.trans rfl
theorem sg_tf_0_22 : sg_tf_0P (182, 15) := fun D X x => (cm_un_eq [32] 62 20 0 _ _ _).symm.trans rfl
theorem sg_tf_0_23 : sg_tf_0P (189, 15) := fun D X x => (cm_un_eq [32] 62 20 0 _ _ _).symm.trans rfl
theorem sg_tf_0_24 : sg_tf_0P (196, 15) := fun D X x => (cm_un_eq [32] 62 20 0 _ _ _).symm.trans rfl
theorem sg_tf_0_25 : sg_tf_0P (203, 15) := fun D X x => (cm_un_eq [32] 62 20 0 _ _ _).symm.trans rfl
theorem sg_tf_0_26 : sg_tf_0P (210, 15) := fun D X x => (cm_un_eq [32] 62 20 0 _ _ _).symm.trans rfl
theorem sg_tf_0_27 : sg_tf_0P (217, 15) := fun D X x => (cm_un_eq [32] 62 20 0 _ _ _).symm.trans rfl
theorem sg_tf_0_28 : sg_tf_0P (224, 15) := fun D X x => (cm_un_eq [32] 62 20 0 _ _ _).symm.trans rfl
theorem sg_tf_0_29 : sg_tf_0P (231, 15) := fun D X x => (cm_un_eq [32] 62 20 0 _ _ _).symm.trans rfl
theorem sg_tf_0_30 : sg_tf_0P (238, 15) := fun D X x => (cm_un_eq [32] 62 20 0 _ _ _).symm.trans rfl
theorem sg_tf_0_31 : sg_tf_0P (245, 15) := fun D X x => (cm_un_eq [32] 62 20 0 _ _ _).symm.trans rfl
theorem sg_tf_0_32 : sg_tf_0P (252, 15) := fun D X x => (cm_un_eq [32] 62 20 0 _ _ _).symm.trans rfl
theorem sg_tf_0_33 : sg_tf_0P (259, 15) := fun D X x => (cm_un_eq [32] 62 20 0 _ _ _).symm.trans rfl
theorem sg_tf_0_34 : sg_tf_0P (266, 15) := fun D X x => (cm_un_eq [32] 62 20 0 _ _ _).symm.trans rfl
theorem sg_tf_0_35 : sg_tf_0P (273, 15) := fun D X x => (cm_un_eq [32] 62 20 0 _ _ _).symm.trans rfl
theorem sg_tf_0_36 : sg_tf_0P (280, 15) := fun D X x => (cm_un_eq [32] 62 20 0 _ _ _).symm.trans rfl
theorem sg_tf_0_37 : sg_tf_0P (287, 15) := fun D X x => (cm_un_eq [32] 62 20 0 _ _ _).symm.trans rfl
theorem sg_tf_0_38 : sg_tf_0P (294, 15) := fun D X x => (cm_un_eq [32] 62 20 0 _ _ _).symm.trans rfl
theorem sg_tf_0_39 : sg_tf_0P (301, 15) := fun D X x => (cm_un_eq [32] 62 20 0 _ _ _).symm.trans rfl
theorem sg_tf_0_40 : sg_tf_0P (15, 28) := fun D X x => (cm_un_eq [32] 62 20 0 _ _ _).symm.trans rfl
theorem sg_tf_0_41 : sg_tf_0P (15, 35) := fun D X x => (cm_un_eq [32] 62 20 0 _ _ _).symm.trans rfl
theorem sg_tf_0_42 : sg_tf_0P (15, 42) := fun D X x => (cm_un_eq [32] 62 20 0 _ _ _).symm.trans rfl
theorem sg_tf_0_43 : sg_tf_0P (15, 49) := fun D X x => (cm_un_eq [32] 62 20 0 _ _ _).symm.trans rfl
theorem sg_tf_0_44 : sg_tf_0P (15, 56) := fun D X x => (cm_un_eq [32] 62 20 0 _ _ _).symm.trans rfl
theorem sg_tf_0_45 : sg_tf_0P (15, 63) := fun D X x => (cm_un_eq [32] 62 20 0 _ _ _).symm.trans rfl
theorem sg_tf_0_46 : sg_tf_0P (15, 70) := fun D X x => (cm_un_eq [32] 62 20 0 _ _ _).symm.trans rfl
theorem sg_tf_0_47 : sg_tf_0P (15, 77) := fun D X x => (cm_un_eq [32] 62 20 0 _ _ _).symm.trans rfl
theorem sg_tf_0_48 : sg_tf_0P (15, 84) := fun D X x => (cm_un_eq [32] 62 20 0 _ _ _).symm.trans rfl
theorem sg_tf_0_49 : sg_tf_0P (15, 91) := fun D X x => (cm_un_eq [32] 62 20 0 _ _ _).symm.trans rfl
theorem sg_tf_0_50 : sg_tf_0P (15, 98) := fun D X x => (cm_un_eq [32] 62 20 0 _ _ _).symm.trans rfl
theorem sg_tf_0_51 : sg_tf_0P (15, 105) := fun D X x => (cm_un_eq [32] 62 20 0 _ _ _).symm.trans rfl
theorem sg_tf_0_52 : sg_tf_0P (15, 112) := fun D X x => (cm_un_eq [32] 62 20 0 _ _ _).symm.trans rfl
theorem sg_tf_0_53 : sg_tf_0P (15, 119) := fun D X x => (cm_un_eq [32] 62 20 0 _ _ _).symm.trans rfl
theorem sg_tf_0_54 : sg_tf_0P (15, 126) := fun D X x => (cm_un_eq [32] 62 20 0 _ _ _).symm.trans rfl
theorem sg_tf_0_55 : sg_tf_0P (15, 133) := fun D X x => (cm_un_eq [32] 62 20 0 _ _ _).symm.trans rfl
theorem sg_tf_0_56 : sg_tf_0P (15, 140) := fun D X x => (cm_un_eq [32] 62 20 0 _ _ _).symm.trans rfl
theorem sg_tf_0_57 : sg_tf_0P (15, 147) := fun D X x => (cm_un_eq [32] 62 20 0 _ _ _).symm.trans rfl
theorem sg_tf_0_58 : sg_tf_0P (15, 154) := fun D X x => (cm_un_eq [32] 62 20 0 _ _ _).symm.trans rfl
theorem sg_tf_0_59 : sg_tf_0P (15, 161) := fun D X x => (cm_un_eq [32] 62 20 0 _ _ _).symm.trans rfl
theorem sg_tf_0_60 : sg_tf_0P (15, 168) := fun D X x => (cm_un_eq [32] 62 20 0 _ _ _).symm.trans rfl
theorem sg_tf_0_61 : sg_tf_0P (15, 175) := fun D X x => (cm_un_eq [32] 62 20 0 _ _ _).symm.trans rfl
theorem sg_tf_0_62 : sg_tf_0P (15, 182) := fun D X x => (cm_un_eq [32] 62 20 0 _ _ _).symm.trans rfl
theorem sg_tf_0_63 : sg_tf_0P (15, 189) := fun D X x => (cm_un_eq [32] 62 20 0 _ _ _).symm.trans rfl
theorem sg_tf_0_64 : sg_tf_0P (15, 196) := fun D X x => (cm_un_eq [32] 62 20 0 _ _ _).symm.trans rfl
theorem sg_tf_0_65 : sg_tf_0P (15, 203) := fun D X x => (cm_un_eq [32] 62 20 0 _ _ _).symm.trans rfl
theorem sg_tf_0_66 : sg_tf_0P (15, 210) := fun D X x => (cm_un_eq [32] 62 20 0 _ _ _).symm.trans rfl
theorem sg_tf_0_67 : sg_tf_0P (15, 217) := fun D X x => (cm_un_eq [32] 62 20 0 _ _ _).symm.trans rfl
theorem sg_tf_0_68 : sg_tf_0P (15, 224) := fun D X x => (cm_un_eq [32] 62 20 0 _ _ _).symm.trans rfl
theorem sg_tf_0_69 : sg_tf_0P (15, 231) := fun D X x => (cm_un_eq [32] 62 20 0 _ _ _).symm.trans rfl
theorem sg_tf_0_70 : sg_tf_0P (15, 238) := fun D X x => (cm_un_eq [32] 62 20 0 _ _ _).symm.trans rfl
theorem sg_tf_0_71 : sg_tf_0P (15, 245) := fun D X x => (cm_un_eq [32] 62 20 0 _ _ _).symm.trans rfl
theorem sg_tf_0_72 : sg_tf_0P (15, 252) := fun D X x => (cm_un_eq [32] 62 20 0 _ _ _).symm.trans rfl
theorem sg_tf_0_73 : sg_tf_0P (15, 259) := fun D X x => (cm_un_eq [32] 62 20 0 _ _ _).symm.trans rfl
theorem sg_tf_0_74 : sg_tf_0P (15, 266) := fun D X x => (cm_un_eq [32] 62 20 0 _ _ _).symm.trans rfl
theorem sg_tf_0_75 : sg_tf_0P (15, 273) := fun D X x => (cm_un_eq [32] 62 20 0 _ _ _).symm.trans rfl
theorem sg_tf_0_76 : sg_tf_0P (15, 280) := fun D X x => (cm_un_eq [32] 62 20 0 _ _ _).symm.trans rfl
theorem sg_tf_0_77 : sg_tf_0P (15, 287) := fun D X x => (cm_un_eq [32] 62 20 0 _ _ _).symm.trans rfl
theorem sg_tf_0_78 : sg_tf_0P (15, 294) := fun D X x => (cm_un_eq [32] 62 20 0 _ _ _).symm.trans rfl
theorem sg_tf_0_79 : sg_tf_0P (15, 301) := fun D X x => (cm_un_eq [32] 62 20 0 _ _ _).symm.trans rfl
theorem sg_tf_0_80 : sg_tf_0P (28, 324) := fun D X x => (cm_un_eq [32] 62 20 0 _ _ _).symm.trans rfl
theorem sg_tf_0_81 : sg_tf_0P (35, 331) := fun D X x => (cm_un_eq [32] 62 20 0 _ _ _).symm.trans rfl
theorem sg_tf_0_82 : sg_tf_0P (42, 338) := fun D X x => (cm_un_eq [32] 62 20 0 _ _ _).symm.trans rfl
theorem sg_tf_0_83 : sg_tf_0P (49, 345) := fun D X x => (cm_un_eq [32] 62 20 0 _ _ _).symm.trans rfl
theorem sg_tf_0_84 : sg_tf_0P (56, 352) := fun D X x => (cm_un_eq [32] 62 20 0 _ _ _).symm.trans rfl
theorem sg_tf_0_85 : sg_tf_0P (63, 359) := fun D X x => (cm_un_eq [32] 62 20 0 _ _ _).symm.trans rfl
theorem sg_tf_0_86 : sg_tf_0P (70, 366) := fun D X x => (cm_un_eq [32] 62 20 0 _ _ _).symm.trans rfl
theorem sg_tf_0_87 : sg_tf_0P (77, 373) := fun D X x => (cm_un_eq [32] 62 20 0 _ _ _).symm.trans rfl
theorem sg_tf_0_88 : sg_tf_0P (84, 380) := fun D X x => (cm_un_eq [32] 62 20 0 _ _ _).symm.trans rfl
theorem sg_tf_0_89 : sg_tf_0P (91, 387) := fun D X x => (cm_un_eq [32] 62 20 0 _ _ _).symm.trans rfl
theorem sg_tf_0_90 : sg_tf_0P (98, 394) := fun D X x => (cm_un_eq [32] 62 20 0 _ _ _).symm.trans rfl
theorem sg_tf_0_91 : sg_tf_0P (105, 401) := fun D X x => (cm_un_eq [32] 62 20 0 _ _ _).symm.trans rfl
theorem sg_tf_0_92 : sg_tf_0P (112, 408) := fun D X x => (cm_un_eq [32] 62 20 0 _ _ _).symm.trans rfl
theorem sg_tf_0_93 : sg_tf_0P (119, 415) := fun D X x => (cm_un_eq [32] 62 20 0 _ _ _).symm.trans rfl
theorem sg_tf_0_94 : sg_tf_0P (126, 422) := fun D X x => (cm_un_eq [32] 62 20 0 _ _ _).symm.trans rfl
theorem sg_tf_0_95 : sg_tf_0P (133, 429) := fun D X x => (cm_un_eq [32] 62 20 0 _ _ _).symm.trans rfl
theorem sg_tf_0_96 : sg_tf_0P (140, 436) := fun D X x => (cm_un_eq [32] 62 20 0 _ _ _).symm.trans rfl
theorem sg_tf_0_97 : sg_tf_0P (147, 443) := fun D X x => (cm_un_eq [32] 62 20 0 _ _ _).symm.trans rfl
theorem sg_tf_0_98 : sg_tf_0P (154, 450) := fun D X x => (cm_un_eq [32] 62 20 0 _ _ _).symm.trans rfl
theorem sg_tf_0_99 : sg_tf_0P (161, 457) := fun D X x => (cm_un_eq [32] 62 20 0 _ _ _).symm.trans rfl
theorem sg_tf_0_100 : sg_tf_0P (168, 464) := fun D X x => (cm_un_eq [32] 62 20 0 _ _ _).symm.trans rfl
theorem sg_tf_0_101 : sg_tf_0P (175, 471) := fun D X x => (cm_un_eq [32] 62 20 0 _ _ _).symm.trans rfl
theorem sg_tf_0_102 : sg_tf_0P (182, 478) := fun D X x => (cm_un_eq [32] 62 20 0 _ _ _).symm.trans rfl
theorem sg_tf_0_103 : sg_tf_0P (189, 485) := fun D X x => (cm_un_eq [32] 62 20 0 _ _ _).symm.trans rfl
theorem sg_tf_0_104 : sg_tf_0P (196, 492) := fun D X x => (cm_un_eq [32] 62 20 0 _ _ _).symm.trans rfl
theorem sg_tf_0_105 : sg_tf_0P (203, 499) := fun D X x => (cm_un_eq [32] 62 20 0 _ _ _).symm.trans rfl
theorem sg_tf_0_106 : sg_tf_0P (210, 506) := fun D X x => (cm_un_eq [32] 62 20 0 _ _ _).symm.trans rfl
theorem sg_tf_0_107 : sg_tf_0P (217, 513) := fun D X x => (cm_un_eq [32] 62 20 0 _ _ _).symm.trans rfl
theorem sg_tf_0_108 : sg_tf_0P (224, 520) := fun D X x => (cm_un_eq [32] 62 20 0 _ _ _).symm.trans rfl
theorem sg_tf_0_109 : sg_tf_0P (231, 527) := fun D X x => (cm_un_eq [32] 62 20 0 _ _ _).symm.trans rfl
theorem sg_tf_0_110 : sg_tf_0P (238, 534) := fun D X x => (cm_un_eq [32] 62 20 0 _ _ _).symm.trans rfl
theorem sg_tf_0_111 : sg_tf_0P (245, 541) := fun D X x => (cm_un_eq [32] 62 20 0 _ _ _).symm.trans rfl
theorem sg_tf_0_112 : sg_tf_0P (252, 548) := fun D X x => (cm_un_eq [32] 62 20 0 _ _ _).symm.trans rfl
theorem sg_tf_0_113 : sg_tf_0P (259, 555) := fun D X x => (cm_un_eq [32] 62 20 0 _ _ _).symm.trans rfl
theorem sg_tf_0_114 : sg_tf_0P (266, 562) := fun D X x => (cm_un_eq [32] 62 20 0 _ _ _).symm.trans rfl
theorem sg_tf_0_115 : sg_tf_0P (273, 569) := fun D X x => (cm_un_eq [32] 62 20 0 _ _ _).symm.trans rfl
theorem sg_tf_0_116 : sg_tf_0P (280, 576) := fun D X x => (cm_un_eq [32] 62 20 0 _ _ _).symm.trans rfl
theorem sg_tf_0_117 : sg_tf_0P (287, 583) := fun D X x => (cm_un_eq [32] 62 20 0 _ _ _).symm.trans rfl
theorem sg_tf_0_118 : sg_tf_0P (294, 590) := fun D X x => (cm_un_eq [32] 62 20 0 _ _ _).symm.trans rfl
theorem sg_tf_0_119 : sg_tf_0P (301, 597) := fun D X x => (cm_un_eq [32] 62 20 0 _ _ _).symm.trans rfl
theorem sg_tf_0_120 : sg_tf_0P (324, 28) := fun D X x => (cm_un_eq [32] 62 20 0 _ _ _).symm.trans rfl
theorem sg_tf_0_121 : sg_tf_0P (331, 35) := fun D X x => (cm_un_eq [32] 62 20 0 _ _ _).symm.trans rfl
theorem sg_tf_0_122 : sg_tf_0P (338, 42) := fun D X x => (cm_un_eq [32] 62 20 0 _ _ _).symm.trans rfl
theorem sg_tf_0_123 : sg_tf_0P (345, 49) := fun D X x => (cm_un_eq [32] 62 20 0 _ _ _).symm.trans rfl
theorem sg_tf_0_124 : sg_tf_0P (352, 56) := fun D X x => (cm_un_eq [32] 62 20 0 _ _ _).symm.trans rfl
theorem sg_tf_0_125 : sg_tf_0P (359, 63) := fun D X x => (cm_un_eq [32] 62 20 0 _ _ _).symm.trans rfl
theorem sg_tf_0_126 : sg_tf_0P (366, 70) := fun D X x => (cm_un_eq [32] 62 20 0 _ _ _).symm.trans rfl
theorem sg_tf_0_127 : sg_tf_0P (373, 77) := fun D X x => (cm_un_eq [32] 62 20 0 _ _ _).symm.trans rfl
theorem sg_tf_0_128 : sg_tf_0P (380, 84) := fun D X x => (cm_un_eq [32] 62 20 0 _ _ _).symm.trans rfl
theorem sg_tf_0_129 : sg_tf_0P (387, 91) := fun D X x => (cm_un_eq [32] 62 20 0 _ _ _).symm.trans rfl
theorem sg_tf_0_130 : sg_tf_0P (394, 98) := fun D X x => (cm_un_eq [32] 62 20 0 _ _ _).symm.trans rfl
theorem sg_tf_0_131 : sg_tf_0P (401, 105) := fun D X x => (cm_un_eq [32] 62 20 0 _ _ _).symm.trans rfl
theorem sg_tf_0_132 : sg_tf_0P (408, 112) := fun D X x => (cm_un_eq [32] 62 20 0 _ _ _).symm.trans rfl
theorem sg_tf_0_133 : sg_tf_0P (415, 119) := fun D X x => (cm_un_eq [32] 62 20 0 _ _ _).symm.trans rfl
theorem sg_tf_0_134 : sg_tf_0P (422, 126) := fun D X x => (cm_un_eq [32] 62 20 0 _ _ _).symm.trans rfl
theorem sg_tf_0_135 : sg_tf_0P (429, 133) := fun D X x => (cm_un_eq [32] 62 20 0 _ _ _).symm.trans rfl
theorem sg_tf_0_136 : sg_tf_0P (436, 140) := fun D X x => (cm_un_eq [32] 62 20 0 _ _ _).symm.trans rfl
theorem sg_tf_0_137 : sg_tf_0P (443, 147) := fun D X x => (cm_un_eq [32] 62 20 0 _ _ _).symm.trans rfl
theorem sg_tf_0_138 : sg_tf_0P (450, 154) := fun D X x => (cm_un_eq [32] 62 20 0 _ _ _).symm.trans rfl
theorem sg_tf_0_139 : sg_tf_0P (457, 161) := fun D X x => (cm_un_eq [32] 62 20 0 _ _ _).symm.trans rfl
theorem sg_tf_0_140 : sg_tf_0P (464, 168) := fun D X x => (cm_un_eq [32] 62 20 0 _ _ _).symm.trans rfl
theorem sg_tf_0_141 : sg_tf_0P (471, 175) := fun D X x => (cm_un_eq [32] 62 20 0 _ _ _).symm.trans rfl
theorem sg_tf_0_142 : sg_tf_0P (478, 182) := fun D X x => (cm_un_eq [32] 62 20 0 _ _ _).symm.trans rfl
theorem sg_tf_0_143 : sg_tf_0P (485, 189) := fun D X x => (cm_un_eq [32] 62 20 0 _ _ _).symm.trans rfl
theorem sg_tf_0_144 : sg_tf_0P (492, 196) := fun D X x => (cm_un_eq [32] 62 20 0 _ _ _).symm.trans rfl
theorem sg_tf_0_145 : sg_tf_0P (499, 203) := fun D X x => (cm_un_eq [32] 62 20 0 _ _ _).symm.trans rfl
theorem sg_tf_0_146 : sg_tf_0P (506, 210) := fun D X x => (cm_un_eq [32] 62 20 0 _ _ _).symm.trans rfl
theorem sg_tf_0_147 : sg_tf_0P (513, 217) := fun D X x => (cm_un_eq [32] 62 20 0 _ _ _).symm.trans rfl
theorem sg_tf_0_148 : sg_tf_0P (520, 224) := fun D X x => (cm_un_eq [32] 62 20 0 _ _ _).symm.trans rfl
theorem sg_tf_0_149 : sg_tf_0P (527, 231) := fun D X x => (cm_un_eq [32] 62 20 0 _ _ _).symm.trans rfl
theorem sg_tf_0_150 : sg_tf_0P (534, 238) := fun D X x => (cm_un_eq [32] 62 20 0 _ _ _).symm.trans rfl
theorem sg_tf_0_151 : sg_tf_0P (541, 245) := fun D X x => (cm_un_eq [32] 62 20 0 _ _ _).symm.trans rfl
theorem sg_tf_0_152 : sg_tf_0P (548, 252) := fun D X x => (cm_un_eq [32] 62 20 0 _ _ _).symm.trans rfl
theorem sg_tf_0_153 : sg_tf_0P (555, 259) := fun D X x => (cm_un_eq [32] 62 20 0 _ _ _).symm.trans rfl
theorem sg_tf_0_154 : sg_tf_0P (562, 266) := fun D X x => (cm_un_eq [32] 62 20 0 _ _ _).symm.trans rfl
theorem sg_tf_0_155 : sg_tf_0P (569, 273) := fun D X x => (cm_un_eq [32] 62 20 0 _ _ _).symm.trans rfl
theorem sg_tf_0_156 : sg_tf_0P (576, 280) := fun D X x => (cm_un_eq [32] 62 20 0 _ _ _).symm.trans rfl
theorem sg_tf_0_157 : sg_tf_0P (583, 287) := fun D X x => (cm_un_eq [32] 62 20 0 _ _ _).symm.trans rfl
theorem sg_tf_0_158 : sg_tf_0P (590, 294) := fun D X x => (cm_un_eq [32] 62 20 0 _ _ _).symm.trans rfl
theorem sg_tf_0_159 : sg_tf_0P (597, 301) := fun D X x => (cm_un_eq [32] 62 20 0 _ _ _).symm.trans rfl
theorem sg_tf_0_160 : sg_tf_0P (604, 15) := fun D X x => (cm_un_eq [32] 62 20 0 _ _ _).symm.trans rfl
theorem sg_tf_0_161 : sg_tf_0P (15, 604) := fun D X x => (cm_un_eq [32] 62 20 0 _ _ _).symm.trans rfl
theorem sg_tf_0_162 : sg_tf_0P (315, 15) := fun D X x => (cm_un_eq [32] 62 20 0 _ _ _).symm.trans rfl
theorem sg_tf_0_163 : sg_tf_0P (15, 315) := fun D X x => (cm_un_eq [32] 62 20 0 _ _ _).symm.trans rfl
theorem sg_tf_0 {a b : Nat} (h : (a, b) ∈ tfL) : sg_tf_0P (a, b) := by
  have key : ∀ l : List (Nat × Nat), (∀ p ∈ l, sg_tf_0P p) → ∀ p ∈ l, sg_tf_0P p := fun _ h => h
  refine key tfL ?_ _ h
  intro p hp
  unfold tfL at hp
  simp only [List.mem_cons, List.not_mem_nil, or_false] at hp
  rcases hp with rfl | rfl | rfl | rfl | rfl | rfl | rfl | rfl | rfl | rfl | rfl | rfl | rfl | rfl | rfl | rfl | rfl | rfl | rfl | rfl | rfl | rfl | rfl | rfl | rfl | rfl | rfl | rfl | rfl | rfl | rfl | rfl | rfl | rfl | rfl | rfl | rfl | rfl | rfl | rfl | rfl | rfl | rfl | rfl | rfl | rfl | rfl | rfl | rfl | rfl | rfl | rfl | rfl | rfl | rfl | rfl | rfl | rfl | rfl | rfl | rfl | rfl | rfl | rfl | rfl | rfl | rfl | rfl | rfl | rfl | rfl | rfl | rfl | rfl | rfl | rfl | rfl | rfl | rfl | rfl | rfl | rfl | rfl | rfl | rfl | rfl | rfl | rfl | rfl | rfl | rfl | rfl | rfl | rfl | rfl | rfl | rfl | rfl | rfl | rfl | rfl | rfl | rfl | rfl | rfl | rfl | rfl | rfl | rfl | rfl | rfl | rfl | rfl | rfl | rfl | rfl | rfl | rfl | rfl | rfl | rfl | rfl | rfl | rfl | rfl | rfl | rfl | rfl | rfl | rfl | rfl | rfl | rfl | rfl | rfl | rfl | rfl | rfl | rfl | rfl | rfl | rfl | rfl | rfl | rfl | rfl | rfl | rfl | rfl | rfl | rfl | rfl | rfl | rfl | rfl | rfl | rfl | rfl | rfl | rfl | rfl | rfl | rfl | rfl
  · exact sg_tf_0_0
  · exact sg_tf_0_1
  · exact sg_tf_0_2
  · exact sg_tf_0_3
  · exact sg_tf_0_4
  · exact sg_tf_0_5
  · exact sg_tf_0_6
  · exact sg_tf_0_7
  · exact sg_tf_0_8
  · exact sg_tf_0_9
  · exact sg_tf_0_10
  · exact sg_tf_0_11
  · exact sg_tf_0_12
  · exact sg_tf_0_13
  · exact sg_tf_0_14
  · exact sg_tf_0_15
  · exact sg_tf_0_16
  · exact sg_tf_0_17
  · exact sg_tf_0_18
  · exact sg_tf_0_19
  · exact sg_tf_0_20
  · exact sg_tf_0_21
  · exact sg_tf_0_22
  · exact sg_tf_0_23
  · exact sg_tf_0_24
  · exact sg_tf_0_25
  · exact sg_tf_0_26
  · exact sg_tf_0_27
  · exact sg_tf_0_28
  · exact sg_tf_0_29
  · exact sg_tf_0_30
  · exact sg_tf_0_31
  · exact sg_tf_0_32
  · exact sg_tf_0_33
  · exact sg_tf_0_34
  · exact sg_tf_0_35
  · exact sg_tf_0_36
  · exact sg_tf_0_37
  · exact sg_tf_0_38
  · exact sg_tf_0_39
  · exact sg_tf_0_40
  · exact sg_tf_0_41
  · exact sg_tf_0_42
  · exact sg_tf_0_43
  · exact sg_tf_0_44
  · exact sg_tf_0_45
  · exact sg_tf_0_46
  · exact sg_tf_0_47
  · exact sg_tf_0_48
  · exact sg_tf_0_49
  · exact sg_tf_0_50
  · exact sg_tf_0_51
  · exact sg_tf_0_52
  · exact sg_tf_0_53
  · exact sg_tf_0_54
  · exact sg_tf_0_55
  · exact sg_tf_0_56
  · exact sg_tf_0_57
  · exact sg_tf_0_58
  · exact sg_tf_0_59
  · exact sg_tf_0_60
  · exact sg_tf_0_61
  · exact sg_tf_0_62
  · exact sg_tf_0_63
  · exact sg_tf_0_64
  · exact sg_tf_0_65
  · exact sg_tf_0_66
  · exact sg_tf_0_67
  · exact sg_tf_0_68
  · exact sg_tf_0_69
  · exact sg_tf_0_70
  · exact sg_tf_0_71
  · exact sg_tf_0_72
  · exact sg_tf_0_73
  · exact sg_tf_0_74
  · exact sg_tf_0_75
  · exact sg_tf_0_76
  · exact sg_tf_0_77
  · exact sg_tf_0_78
  · exact sg_tf_0_79
  · exact sg_tf_0_80
  · exact sg_tf_0_81
  · exact sg_tf_0_82
  · exact sg_tf_0_83
  · exact sg_tf_0_84
  · exact sg_tf_0_85
  · exact sg_tf_0_86
  · exact sg_tf_0_87
  · exact sg_tf_0_88
  · exact sg_tf_0_89
  · exact sg_tf_0_90
  · exact sg_tf_0_91
  · exact sg_tf_0_92
  · exact sg_tf_0_93
  · exact sg_tf_0_94
  · exact sg_tf_0_95
  · exact sg_tf_0_96
  · exact sg_tf_0_97
  · exact sg_tf_0_98
  · exact sg_tf_0_99
  · exact sg_tf_0_100
  · exact sg_tf_0_101
  · exact sg_tf_0_102
  · exact sg_tf_0_103
  · exact sg_tf_0_104
  · exact sg_tf_0_105
  · exact sg_tf_0_106
  · exact sg_tf_0_107
  · exact sg_tf_0_108
  · exact sg_tf_0_109
  · exact sg_tf_0_110
  · exact sg_tf_0_111
  · exact sg_tf_0_112
  · exact sg_tf_0_113
  · exact sg_tf_0_114
  · exact sg_tf_0_115
  · exact sg_tf_0_116
  · exact sg_tf_0_117
  · exact sg_tf_0_118
  · exact sg_tf_0_119
  · exact sg_tf_0_120
  · exact sg_tf_0_121
  · exact sg_tf_0_122
  · exact sg_tf_0_123
  · exact sg_tf_0_124
  · exact sg_tf_0_125
  · exact sg_tf_0_126
  · exact sg_tf_0_127
  · exact sg_tf_0_128
  · exact sg_tf_0_129
  · exact sg_tf_0_130
  · exact sg_tf_0_131
  · exact sg_tf_0_132
  · exact sg_tf_0_133
  · exact sg_tf_0_134
  · exact sg_tf_0_135
  · exact sg_tf_0_136
  · exact sg_tf_0_137
  · exact sg_tf_0_138
  · exact sg_tf_0_139
  · exact sg_tf_0_140
  · exact sg_tf_0_141
  · exact sg_tf_0_142
  · exact sg_tf_0_143
  · exact sg_tf_0_144
  · exact sg_tf_0_145
  · exact sg_tf_0_146
  · exact sg_tf_0_147
  · exact sg_tf_0_148
  · exact sg_tf_0_149
  · exact sg_tf_0_150
  · exact sg_tf_0_151
  · exact sg_tf_0_152
  · exact sg_tf_0_153
  · exact sg_tf_0_154
  · exact sg_tf_0_155
  · exact sg_tf_0_156
  · exact sg_tf_0_157
  · exact sg_tf_0_158
  · exact sg_tf_0_159
  · exact sg_tf_0_160
  · exact sg_tf_0_161
  · exact sg_tf_0_162
  · exact sg_tf_0_163
def sg_tf_32P (p : Nat × Nat) : Prop := ∀ (D : Nat → Int → Int) (X : cm_X) (x : Int), cm_x 62 32 [some (.inr (.inr p.1)), some (.inr (.inr p.2)), some (.inl x)] [] (cm_hp D X) = (if x < 12 then cm_ck (0 ≤ x ∧ x < 12) (cm_ck (0 ≤ x ∧ x < 12) (cm_x 62 32 [some (.inr (.inr p.1)), some (.inr (.inr p.2)), some (.inl (cm_wr (x + 1)))] [] (cm_hp (cm_up D (p.1 + 3) x ((D (p.2 + 3) x) % 2)) X))) else cm_ck (D p.2 6 = 0 ∨ D p.2 6 = 1) (some (.inl none, cm_hp (cm_up (cm_up (cm_up (cm_up (cm_up (cm_ua (cm_ua (cm_ua D (p.1 + 4) (cm_cp (D (p.2 + 4)) (D (p.1 + 4)) 0 0 96)) (p.1 + 5) (cm_cp (D (p.2 + 5)) (D (p.1 + 5)) 0 0 96)) (p.1 + 6) (cm_cp (D (p.2 + 6)) (D (p.1 + 6)) 0 0 13)) p.1 6 (D p.2 6)) p.1 7 (D p.2 7)) p.1 8 (D p.2 8)) p.1 9 (D p.2 9)) p.1 10 (D p.2 10)) X)))
theorem sg_tf_32_0 : sg_tf_32P (28, 15) := fun D X x => (cm_un_eq [32] 62 50 32 _ _ _).symm.trans rfl
theorem sg_tf_32_1 : sg_tf_32P (35, 15) := fun D X x => (cm_un_eq [32] 62 50 32 _ _ _).symm.trans rfl
theorem sg_tf_32_2 : sg_tf_32P (42, 15) := fun D X x => (cm_un_eq [32] 62 50 32 _ _ _).symm.trans rfl
theorem sg_tf_32_3 : sg_tf_32P (49, 15) := fun D X x => (cm_un_eq [32] 62 50 32 _ _ _).symm.trans rfl
theorem sg_tf_32_4 : sg_tf_32P (56, 15) := fun D X x => (cm_un_eq [32] 62 50 32 _ _ _).symm.trans rfl
theorem sg_tf_32_5 : sg_tf_32P (63, 15) := fun D X x => (cm_un_eq [32] 62 50 32 _ _ _).symm.trans rfl
theorem sg_tf_32_6 : sg_tf_32P (70, 15) := fun D X x => (cm_un_eq [32] 62 50 32 _ _ _).symm.trans rfl
theorem sg_tf_32_7 : sg_tf_32P (77, 15) := fun D X x => (cm_un_eq [32] 62 50 32 _ _ _).symm.trans rfl
theorem sg_tf_32_8 : sg_tf_32P (84, 15) := fun D X x => (cm_un_eq [32] 62 50 32 _ _ _).symm.trans rfl
theorem sg_tf_32_9 : sg_tf_32P (91, 15) := fun D X x => (cm_un_eq [32] 62 50 32 _ _ _).symm.trans rfl
theorem sg_tf_32_10 : sg_tf_32P (98, 15) := fun D X x => (cm_un_eq [32] 62 50 32 _ _ _).symm.trans rfl
theorem sg_tf_32_11 : sg_tf_32P (105, 15) := fun D X x => (cm_un_eq [32] 62 50 32 _ _ _).symm.trans rfl
theorem sg_tf_32_12 : sg_tf_32P (112, 15) := fun D X x => (cm_un_eq [32] 62 50 32 _ _ _).symm.trans rfl
theorem sg_tf_32_13 : sg_tf_32P (119, 15) := fun D X x => (cm_un_eq [32] 62 50 32 _ _ _).symm.trans rfl
theorem sg_tf_32_14 : sg_tf_32P (126, 15) := fun D X x => (cm_un_eq [32] 62 50 32 _ _ _).symm.trans rfl
theorem sg_tf_32_15 : sg_tf_32P (133, 15) := fun D X x => (cm_un_eq [32] 62 50 32 _ _ _).symm.trans rfl
theorem sg_tf_32_16 : sg_tf_32P (140, 15) := fun D X x => (cm_un_eq [32] 62 50 32 _ _ _).symm.trans rfl
theorem sg_tf_32_17 : sg_tf_32P (147, 15) := fun D X x => (cm_un_eq [32] 62 50 32 _ _ _).symm.trans rfl
theorem sg_tf_32_18 : sg_tf_32P (154, 15) := fun D X x => (cm_un_eq [32] 62 50 32 _ _ _).symm.trans rfl
theorem sg_tf_32_19 : sg_tf_32P (161, 15) := fun D X x => (cm_un_eq [32] 62 50 32 _ _ _).symm.trans rfl
theorem sg_tf_32_20 : sg_tf_32P (168, 15) := fun D X x => (cm_un_eq [32] 62 50 32 _ _ _).symm.trans rfl
theorem sg_tf_32_21 : sg_tf_32P (175, 15) := fun D X x => (cm_un_eq [32] 62 50 32 _ _ _).symm.trans rfl
theorem sg_tf_32_22 : sg_tf_32P (182, 15) := fun D X x => (cm_un_eq [32] 62 50 32 _ _ _).symm.trans rfl
theorem sg_tf_32_23 : sg_tf_32P (189, 15) := fun D X x => (cm_un_eq [32] 62 50 32 _ _ _).symm.trans rfl
theorem sg_tf_32_24 : sg_tf_32P (196, 15) := fun D X x => (cm_un_eq [32] 62 50 32 _ _ _).symm.trans rfl
theorem sg_tf_32_25 : sg_tf_32P (203, 15) := fun D X x => (cm_un_eq [32] 62 50 32 _ _ _).symm.trans rfl
theorem sg_tf_32_26 : sg_tf_32P (210, 15) := fun D X x => (cm_un_eq [32] 62 50 32 _ _ _).symm.trans rfl
theorem sg_tf_32_27 : sg_tf_32P (217, 15) := fun D X x => (cm_un_eq [32] 62 50 32 _ _ _).symm.trans rfl
theorem sg_tf_32_28 : sg_tf_32P (224, 15) := fun D X x => (cm_un_eq [32] 62 50 32 _ _ _).symm.trans rfl
theorem sg_tf_32_29 : sg_tf_32P (231, 15) := fun D X x => (cm_un_eq [32] 62 50 32 _ _ _).symm.trans rfl
theorem sg_tf_32_30 : sg_tf_32P (238, 15) := fun D X x => (cm_un_eq [32] 62 50 32 _ _ _).symm.trans rfl
theorem sg_tf_32_31 : sg_tf_32P (245, 15) := fun D X x => (cm_un_eq [32] 62 50 32 _ _ _).symm.trans rfl
theorem sg_tf_32_32 : sg_tf_32P (252, 15) := fun D X x => (cm_un_eq [32] 62 50 32 _ _ _).symm.trans rfl
theorem sg_tf_32_33 : sg_tf_32P (259, 15) := fun D X x => (cm_un_eq [32] 62 50 32 _ _ _).symm.trans rfl
theorem sg_tf_32_34 : sg_tf_32P (266, 15) := fun D X x => (cm_un_eq [32] 62 50 32 _ _ _).symm.trans rfl
theorem sg_tf_32_35 : sg_tf_32P (273, 15) := fun D X x => (cm_un_eq [32] 62 50 32 _ _ _).symm.trans rfl
theorem sg_tf_32_36 : sg_tf_32P (280, 15) := fun D X x => (cm_un_eq [32] 62 50 32 _ _ _).symm.trans rfl
theorem sg_tf_32_37 : sg_tf_32P (287, 15) := fun D X x => (cm_un_eq [32] 62 50 32 _ _ _).symm.trans rfl
theorem sg_tf_32_38 : sg_tf_32P (294, 15) := fun D X x => (cm_un_eq [32] 62 50 32 _ _ _).symm.trans rfl
theorem sg_tf_32_39 : sg_tf_32P (301, 15) := fun D X x => (cm_un_eq [32] 62 50 32 _ _ _).symm.trans rfl
theorem sg_tf_32_40 : sg_tf_32P (15, 28) := fun D X x => (cm_un_eq [32] 62 50 32 _ _ _).symm.trans rfl
theorem sg_tf_32_41 : sg_tf_32P (15, 35) := fun D X x => (cm_un_eq [32] 62 50 32 _ _ _).symm.trans rfl
theorem sg_tf_32_42 : sg_tf_32P (15, 42) := fun D X x => (cm_un_eq [32] 62 50 32 _ _ _).symm.trans rfl
theorem sg_tf_32_43 : sg_tf_32P (15, 49) := fun D X x => (cm_un_eq [32] 62 50 32 _ _ _).symm.trans rfl
theorem sg_tf_32_44 : sg_tf_32P (15, 56) := fun D X x => (cm_un_eq [32] 62 50 32 _ _ _).symm.trans rfl
theorem sg_tf_32_45 : sg_tf_32P (15, 63) := fun D X x => (cm_un_eq [32] 62 50 32 _ _ _).symm.trans rfl
theorem sg_tf_32_46 : sg_tf_32P (15, 70) := fun D X x => (cm_un_eq [32] 62 50 32 _ _ _).symm.trans rfl
theorem sg_tf_32_47 : sg_tf_32P (15, 77) := fun D X x => (cm_un_eq [32] 62 50 32 _ _ _).symm.trans rfl
theorem sg_tf_32_48 : sg_tf_32P (15, 84) := fun D X x => (cm_un_eq [32] 62 50 32 _ _ _).symm.trans rfl
theorem sg_tf_32_49 : sg_tf_32P (15, 91) := fun D X x => (cm_un_eq [32] 62 50 32 _ _ _).symm.trans rfl
theorem sg_tf_32_50 : sg_tf_32P (15, 98) := fun D X x => (cm_un_eq [32] 62 50 32 _ _ _).symm.trans rfl
theorem sg_tf_32_51 : sg_tf_32P (15, 105) := fun D X x => (cm_un_eq [32] 62 50 32 _ _ _).symm.trans rfl
theorem sg_tf_32_52 : sg_tf_32P (15, 112) := fun D X x => (cm_un_eq [32] 62 50 32 _ _ _).symm.trans rfl
theorem sg_tf_32_53 : sg_tf_32P (15, 119) := fun D X x => (cm_un_eq [32] 62 50 32 _ _ _).symm.trans rfl
theorem sg_tf_32_54 : sg_tf_32P (15, 126) := fun D X x => (cm_un_eq [32] 62 50 32 _ _ _).symm.trans rfl
theorem sg_tf_32_55 : sg_tf_32P (15, 133) := fun D X x => (cm_un_eq [32] 62 50 32 _ _ _).symm.trans rfl
theorem sg_tf_32_56 : sg_tf_32P (15, 140) := fun D X x => (cm_un_eq [32] 62 50 32 _ _ _).symm.trans rfl
theorem sg_tf_32_57 : sg_tf_32P (15, 147) := fun D X x => (cm_un_eq [32] 62 50 32 _ _ _).symm.trans rfl
theorem sg_tf_32_58 : sg_tf_32P (15, 154) := fun D X x => (cm_un_eq [32] 62 50 32 _ _ _).symm.trans rfl
theorem sg_tf_32_59 : sg_tf_32P (15, 161) := fun D X x => (cm_un_eq [32] 62 50 32 _ _ _).symm.trans rfl
theorem sg_tf_32_60 : sg_tf_32P (15, 168) := fun D X x => (cm_un_eq [32] 62 50 32 _ _ _).symm.trans rfl
theorem sg_tf_32_61 : sg_tf_32P (15, 175) := fun D X x => (cm_un_eq [32] 62 50 32 _ _ _).symm.trans rfl
theorem sg_tf_32_62 : sg_tf_32P (15, 182) := fun D X x => (cm_un_eq [32] 62 50 32 _ _ _).symm.trans rfl
theorem sg_tf_32_63 : sg_tf_32P (15, 189) := fun D X x => (cm_un_eq [32] 62 50 32 _ _ _).symm.trans rfl
theorem sg_tf_32_64 : sg_tf_32P (15, 196) := fun D X x => (cm_un_eq [32] 62 50 32 _ _ _).symm.trans rfl
theorem sg_tf_32_65 : sg_tf_32P (15, 203) := fun D X x => (cm_un_eq [32] 62 50 32 _ _ _).symm.trans rfl
theorem sg_tf_32_66 : sg_tf_32P (15, 210) := fun D X x => (cm_un_eq [32] 62 50 32 _ _ _).symm.trans rfl
theorem sg_tf_32_67 : sg_tf_32P (15, 217) := fun D X x => (cm_un_eq [32] 62 50 32 _ _ _).symm.trans rfl
theorem sg_tf_32_68 : sg_tf_32P (15, 224) := fun D X x => (cm_un_eq [32] 62 50 32 _ _ _).symm.trans rfl
theorem sg_tf_32_69 : sg_tf_32P (15, 231) := fun D X x => (cm_un_eq [32] 62 50 32 _ _ _).symm.trans rfl
theorem sg_tf_32_70 : sg_tf_32P (15, 238) := fun D X x => (cm_un_eq [32] 62 50 32 _ _ _).symm.trans rfl
theorem sg_tf_32_71 : sg_tf_32P (15, 245) := fun D X x => (cm_un_eq [32] 62 50 32 _ _ _).symm.trans rfl
theorem sg_tf_32_72 : sg_tf_32P (15, 252) := fun D X x => (cm_un_eq [32] 62 50 32 _ _ _).symm.trans rfl
theorem sg_tf_32_73 : sg_tf_32P (15, 259) := fun D X x => (cm_un_eq [32] 62 50 32 _ _ _).symm.trans rfl
theorem sg_tf_32_74 : sg_tf_32P (15, 266) := fun D X x => (cm_un_eq [32] 62 50 32 _ _ _).symm.trans rfl
theorem sg_tf_32_75 : sg_tf_32P (15, 273) := fun D X x => (cm_un_eq [32] 62 50 32 _ _ _).symm.trans rfl
theorem sg_tf_32_76 : sg_tf_32P (15, 280) := fun D X x => (cm_un_eq [32] 62 50 32 _ _ _).symm.trans rfl
theorem sg_tf_32_77 : sg_tf_32P (15, 287) := fun D X x => (cm_un_eq [32] 62 50 32 _ _ _).symm.trans rfl
theorem sg_tf_32_78 : sg_tf_32P (15, 294) := fun D X x => (cm_un_eq [32] 62 50 32 _ _ _).symm.trans rfl
theorem sg_tf_32_79 : sg_tf_32P (15, 301) := fun D X x => (cm_un_eq [32] 62 50 32 _ _ _).symm.trans rfl
theorem sg_tf_32_80 : sg_tf_32P (28, 324) := fun D X x => (cm_un_eq [32] 62 50 32 _ _ _).symm.trans rfl
theorem sg_tf_32_81 : sg_tf_32P (35, 331) := fun D X x => (cm_un_eq [32] 62 50 32 _ _ _).symm.trans rfl
theorem sg_tf_32_82 : sg_tf_32P (42, 338) := fun D X x => (cm_un_eq [32] 62 50 32 _ _ _).symm.trans rfl
theorem sg_tf_32_83 : sg_tf_32P (49, 345) := fun D X x => (cm_un_eq [32] 62 50 32 _ _ _).symm.trans rfl
theorem sg_tf_32_84 : sg_tf_32P (56, 352) := fun D X x => (cm_un_eq [32] 62 50 32 _ _ _).symm.trans rfl
theorem sg_tf_32_85 : sg_tf_32P (63, 359) := fun D X x => (cm_un_eq [32] 62 50 32 _ _ _).symm.trans rfl
theorem sg_tf_32_86 : sg_tf_32P (70, 366) := fun D X x => (cm_un_eq [32] 62 50 32 _ _ _).symm.trans rfl
theorem sg_tf_32_87 : sg_tf_32P (77, 373) := fun D X x => (cm_un_eq [32] 62 50 32 _ _ _).symm.trans rfl
theorem sg_tf_32_88 : sg_tf_32P (84, 380) := fun D X x => (cm_un_eq [32] 62 50 32 _ _ _).symm.trans rfl
theorem sg_tf_32_89 : sg_tf_32P (91, 387) := fun D X x => (cm_un_eq [32] 62 50 32 _ _ _).symm.trans rfl
theorem sg_tf_32_90 : sg_tf_32P (98, 394) := fun D X x => (cm_un_eq [32] 62 50 32 _ _ _).symm.trans rfl
theorem sg_tf_32_91 : sg_tf_32P (105, 401) := fun D X x => (cm_un_eq [32] 62 50 32 _ _ _).symm.trans rfl
theorem sg_tf_32_92 : sg_tf_32P (112, 408) := fun D X x => (cm_un_eq [32] 62 50 32 _ _ _).symm.trans rfl
theorem sg_tf_32_93 : sg_tf_32P (119, 415) := fun D X x => (cm_un_eq [32] 62 50 32 _ _ _).symm.trans rfl
theorem sg_tf_32_94 : sg_tf_32P (126, 422) := fun D X x => (cm_un_eq [32] 62 50 32 _ _ _).symm.trans rfl
theorem sg_tf_32_95 : sg_tf_32P (133, 429) := fun D X x => (cm_un_eq [32] 62 50 32 _ _ _).symm.trans rfl
theorem sg_tf_32_96 : sg_tf_32P (140, 436) := fun D X x => (cm_un_eq [32] 62 50 32 _ _ _).symm.trans rfl
theorem sg_tf_32_97 : sg_tf_32P (147, 443) := fun D X x => (cm_un_eq [32] 62 50 32 _ _ _).symm.trans rfl
theorem sg_tf_32_98 : sg_tf_32P (154, 450) := fun D X x => (cm_un_eq [32] 62 50 32 _ _ _).symm.trans rfl
theorem sg_tf_32_99 : sg_tf_32P (161, 457) := fun D X x => (cm_un_eq [32] 62 50 32 _ _ _).symm.trans rfl
theorem sg_tf_32_100 : sg_tf_32P (168, 464) := fun D X x => (cm_un_eq [32] 62 50 32 _ _ _).symm.trans rfl
theorem sg_tf_32_101 : sg_tf_32P (175, 471) := fun D X x => (cm_un_eq [32] 62 50 32 _ _ _).symm.trans rfl
theorem sg_tf_32_102 : sg_tf_32P (182, 478) := fun D X x => (cm_un_eq [32] 62 50 32 _ _ _).symm.trans rfl
theorem sg_tf_32_103 : sg_tf_32P (189, 485) := fun D X x => (cm_un_eq [32] 62 50 32 _ _ _).symm.trans rfl
theorem sg_tf_32_104 : sg_tf_32P (196, 492) := fun D X x => (cm_un_eq [32] 62 50 32 _ _ _).symm.trans rfl
theorem sg_tf_32_105 : sg_tf_32P (203, 499) := fun D X x => (cm_un_eq [32] 62 50 32 _ _ _).symm.trans rfl
theorem sg_tf_32_106 : sg_tf_32P (210, 506) := fun D X x => (cm_un_eq [32] 62 50 32 _ _ _).symm.trans rfl
theorem sg_tf_32_107 : sg_tf_32P (217, 513) := fun D X x => (cm_un_eq [32] 62 50 32 _ _ _).symm.trans rfl
theorem sg_tf_32_108 : sg_tf_32P (224, 520) := fun D X x => (cm_un_eq [32] 62 50 32 _ _ _).symm.trans rfl
theorem sg_tf_32_109 : sg_tf_32P (231, 527) := fun D X x => (cm_un_eq [32] 62 50 32 _ _ _).symm.trans rfl
theorem sg_tf_32_110 : sg_tf_32P (238, 534) := fun D X x => (cm_un_eq [32] 62 50 32 _ _ _).symm.trans rfl
theorem sg_tf_32_111 : sg_tf_32P (245, 541) := fun D X x => (cm_un_eq [32] 62 50 32 _ _ _).symm.trans rfl
theorem sg_tf_32_112 : sg_tf_32P (252, 548) := fun D X x => (cm_un_eq [32] 62 50 32 _ _ _).symm.trans rfl
theorem sg_tf_32_113 : sg_tf_32P (259, 555) := fun D X x => (cm_un_eq [32] 62 50 32 _ _ _).symm.trans rfl
theorem sg_tf_32_114 : sg_tf_32P (266, 562) := fun D X x => (cm_un_eq [32] 62 50 32 _ _ _).symm.trans rfl
theorem sg_tf_32_115 : sg_tf_32P (273, 569) := fun D X x => (cm_un_eq [32] 62 50 32 _ _ _).symm.trans rfl
theorem sg_tf_32_116 : sg_tf_32P (280, 576) := fun D X x => (cm_un_eq [32] 62 50 32 _ _ _).symm.trans rfl
theorem sg_tf_32_117 : sg_tf_32P (287, 583) := fun D X x => (cm_un_eq [32] 62 50 32 _ _ _).symm.trans rfl
theorem sg_tf_32_118 : sg_tf_32P (294, 590) := fun D X x => (cm_un_eq [32] 62 50 32 _ _ _).symm.trans rfl
theorem sg_tf_32_119 : sg_tf_32P (301, 597) := fun D X x => (cm_un_eq [32] 62 50 32 _ _ _).symm.trans rfl
theorem sg_tf_32_120 : sg_tf_32P (324, 28) := fun D X x => (cm_un_eq [32] 62 50 32 _ _ _).symm.trans rfl
theorem sg_tf_32_121 : sg_tf_32P (331, 35) := fun D X x => (cm_un_eq [32] 62 50 32 _ _ _).symm.trans rfl
theorem sg_tf_32_122 : sg_tf_32P (338, 42) := fun D X x => (cm_un_eq [32] 62 50 32 _ _ _).symm.trans rfl
theorem sg_tf_32_123 : sg_tf_32P (345, 49) := fun D X x => (cm_un_eq [32] 62 50 32 _ _ _).symm.trans rfl
theorem sg_tf_32_124 : sg_tf_32P (352, 56) := fun D X x => (cm_un_eq [32] 62 50 32 _ _ _).symm.trans rfl
theorem sg_tf_32_125 : sg_tf_32P (359, 63) := fun D X x => (cm_un_eq [32] 62 50 32 _ _ _).symm.trans rfl
theorem sg_tf_32_126 : sg_tf_32P (366, 70) := fun D X x => (cm_un_eq [32] 62 50 32 _ _ _).symm.trans rfl
theorem sg_tf_32_127 : sg_tf_32P (373, 77) := fun D X x => (cm_un_eq [32] 62 50 32 _ _ _).symm.trans rfl
theorem sg_tf_32_128 : sg_tf_32P (380, 84) := fun D X x => (cm_un_eq [32] 62 50 32 _ _ _).symm.trans rfl
theorem sg_tf_32_129 : sg_tf_32P (387, 91) := fun D X x => (cm_un_eq [32] 62 50 32 _ _ _).symm.trans rfl
theorem sg_tf_32_130 : sg_tf_32P (394, 98) := fun D X x => (cm_un_eq [32] 62 50 32 _ _ _).symm.trans rfl
theorem sg_tf_32_131 : sg_tf_32P (401, 105) := fun D X x => (cm_un_eq [32] 62 50 32 _ _ _).symm.trans rfl
theorem sg_tf_32_132 : sg_tf_32P (408, 112) := fun D X x => (cm_un_eq [32] 62 50 32 _ _ _).symm.trans rfl
theorem sg_tf_32_133 : sg_tf_32P (415, 119) := fun D X x => (cm_un_eq [32] 62 50 32 _ _ _).symm.trans rfl
theorem sg_tf_32_134 : sg_tf_32P (422, 126) := fun D X x => (cm_un_eq [32] 62 50 32 _ _ _).symm.trans rfl
theorem sg_tf_32_135 : sg_tf_32P (429, 133) := fun D X x => (cm_un_eq [32] 62 50 32 _ _ _).symm.trans rfl
theorem sg_tf_32_136 : sg_tf_32P (436, 140) := fun D X x => (cm_un_eq [32] 62 50 32 _ _ _).symm.trans rfl
theorem sg_tf_32_137 : sg_tf_32P (443, 147) := fun D X x => (cm_un_eq [32] 62 50 32 _ _ _).symm.trans rfl
theorem sg_tf_32_138 : sg_tf_32P (450, 154) := fun D X x => (cm_un_eq [32] 62 50 32 _ _ _).symm.trans rfl
theorem sg_tf_32_139 : sg_tf_32P (457, 161) := fun D X x => (cm_un_eq [32] 62 50 32 _ _ _).symm.trans rfl
theorem sg_tf_32_140 : sg_tf_32P (464, 168) := fun D X x => (cm_un_eq [32] 62 50 32 _ _ _).symm.trans rfl
theorem sg_tf_32_141 : sg_tf_32P (471, 175) := fun D X x => (cm_un_eq [32] 62 50 32 _ _ _).symm.trans rfl
theorem sg_tf_32_142 : sg_tf_32P (478, 182) := fun D X x => (cm_un_eq [32] 62 50 32 _ _ _).symm.trans rfl
theorem sg_tf_32_143 : sg_tf_32P (485, 189) := fun D X x => (cm_un_eq [32] 62 50 32 _ _ _).symm.trans rfl
theorem sg_tf_32_144 : sg_tf_32P (492, 196) := fun D X x => (cm_un_eq [32] 62 50 32 _ _ _).symm.trans rfl
theorem sg_tf_32_145 : sg_tf_32P (499, 203) := fun D X x => (cm_un_eq [32] 62 50 32 _ _ _).symm.trans rfl
theorem sg_tf_32_146 : sg_tf_32P (506, 210) := fun D X x => (cm_un_eq [32] 62 50 32 _ _ _).symm.trans rfl
theorem sg_tf_32_147 : sg_tf_32P (513, 217) := fun D X x => (cm_un_eq [32] 62 50 32 _ _ _).symm.trans rfl
theorem sg_tf_32_148 : sg_tf_32P (520, 224) := fun D X x => (cm_un_eq [32] 62 50 32 _ _ _).symm.trans rfl
theorem sg_tf_32_149 : sg_tf_32P (527, 231) := fun D X x => (cm_un_eq [32] 62 50 32 _ _ _).symm.trans rfl
theorem sg_tf_32_150 : sg_tf_32P (534, 238) := fun D X x => (cm_un_eq [32] 62 50 32 _ _ _).symm.trans rfl
theorem sg_tf_32_151 : sg_tf_32P (541, 245) := fun D X x => (cm_un_eq [32] 62 50 32 _ _ _).symm.trans rfl
theorem sg_tf_32_152 : sg_tf_32P (548, 252) := fun D X x => (cm_un_eq [32] 62 50 32 _ _ _).symm.trans rfl
theorem sg_tf_32_153 : sg_tf_32P (555, 259) := fun D X x => (cm_un_eq [32] 62 50 32 _ _ _).symm.trans rfl
theorem sg_tf_32_154 : sg_tf_32P (562, 266) := fun D X x => (cm_un_eq [32] 62 50 32 _ _ _).symm.trans rfl
theorem sg_tf_32_155 : sg_tf_32P (569, 273) := fun D X x => (cm_un_eq [32] 62 50 32 _ _ _).symm.trans rfl
theorem sg_tf_32_156 : sg_tf_32P (576, 280) := fun D X x => (cm_un_eq [32] 62 50 32 _ _ _).symm.trans rfl
theorem sg_tf_32_157 : sg_tf_32P (583, 287) := fun D X x => (cm_un_eq [32] 62 50 32 _ _ _).symm.trans rfl
theorem sg_tf_32_158 : sg_tf_32P (590, 294) := fun D X x => (cm_un_eq [32] 62 50 32 _ _ _).symm.trans rfl
theorem sg_tf_32_159 : sg_tf_32P (597, 301) := fun D X x => (cm_un_eq [32] 62 50 32 _ _ _).symm.trans rfl
theorem sg_tf_32_160 : sg_tf_32P (604, 15) := fun D X x => (cm_un_eq [32] 62 50 32 _ _ _).symm.trans rfl
theorem sg_tf_32_161 : sg_tf_32P (15, 604) := fun D X x => (cm_un_eq [32] 62 50 32 _ _ _).symm.trans rfl
theorem sg_tf_32_162 : sg_tf_32P (315, 15) := fun D X x => (cm_un_eq [32] 62 50 32 _ _ _).symm.trans rfl
theorem sg_tf_32_163 : sg_tf_32P (15, 315) := fun D X x => (cm_un_eq [32] 62 50 32 _ _ _).symm.trans rfl
theorem sg_tf_32 {a b : Nat} (h : (a, b) ∈ tfL) : sg_tf_32P (a, b) := by
  have key : ∀ l : List (Nat × Nat), (∀ p ∈ l, sg_tf_32P p) → ∀ p ∈ l, sg_tf_32P p := fun _ h => h
  refine key tfL ?_ _ h
  intro p hp
  unfold tfL at hp
  simp only [List.mem_cons, List.not_mem_nil, or_false] at hp
  rcases hp with rfl | rfl | rfl | rfl | rfl | rfl | rfl | rfl | rfl | rfl | rfl | rfl | rfl | rfl | rfl | rfl | rfl | rfl | rfl | rfl | rfl | rfl | rfl | rfl | rfl | rfl | rfl | rfl | rfl | rfl | rfl | rfl | rfl | rfl | rfl | rfl | rfl | rfl | rfl | rfl | rfl | rfl | rfl | rfl | rfl | rfl | rfl | rfl | rfl | rfl | rfl | rfl | rfl | rfl | rfl | rfl | rfl | rfl | rfl | rfl | rfl | rfl | rfl | rfl | rfl | rfl | rfl | rfl | rfl | rfl | rfl | rfl | rfl | rfl | rfl | rfl | rfl | rfl | rfl | rfl | rfl | rfl | rfl | rfl | rfl | rfl | rfl | rfl | rfl | rfl | rfl | rfl | rfl | rfl | rfl | rfl | rfl | rfl | rfl | rfl | rfl | rfl | rfl | rfl | rfl | rfl | rfl | rfl | rfl | rfl | rfl | rfl | rfl | rfl | rfl | rfl | rfl | rfl | rfl | rfl | rfl | rfl | rfl | rfl | rfl | rfl | rfl | rfl | rfl | rfl | rfl | rfl | rfl | rfl | rfl | rfl | rfl | rfl | rfl | rfl | rfl | rfl | rfl | rfl | rfl | rfl | rfl | rfl | rfl | rfl | rfl | rfl | rfl | rfl | rfl | rfl | rfl | rfl | rfl | rfl | rfl | rfl | rfl | rfl
  · exact sg_tf_32_0
  · exact sg_tf_32_1
  · exact sg_tf_32_2
  · exact sg_tf_32_3
  · exact sg_tf_32_4
  · exact sg_tf_32_5
  · exact sg_tf_32_6
  · exact sg_tf_32_7
  · exact sg_tf_32_8
  · exact sg_tf_32_9
  · exact sg_tf_32_10
  · exact sg_tf_32_11
  · exact sg_tf_32_12
  · exact sg_tf_32_13
  · exact sg_tf_32_14
  · exact sg_tf_32_15
  · exact sg_tf_32_16
  · exact sg_tf_32_17
  · exact sg_tf_32_18
  · exact sg_tf_32_19
  · exact sg_tf_32_20
  · exact sg_tf_32_21
  · exact sg_tf_32_22
  · exact sg_tf_32_23
  · exact sg_tf_32_24
  · exact sg_tf_32_25
  · exact sg_tf_32_26
  · exact sg_tf_32_27
  · exact sg_tf_32_28
  · exact sg_tf_32_29
  · exact sg_tf_32_30
  · exact sg_tf_32_31
  · exact sg_tf_32_32
  · exact sg_tf_32_33
  · exact sg_tf_32_34
  · exact sg_tf_32_35
  · exact sg_tf_32_36
  · exact sg_tf_32_37
  · exact sg_tf_32_38
  · exact sg_tf_32_39
  · exact sg_tf_32_40
  · exact sg_tf_32_41
  · exact sg_tf_32_42
  · exact sg_tf_32_43
  · exact sg_tf_32_44
  · exact sg_tf_32_45
  · exact sg_tf_32_46
  · exact sg_tf_32_47
  · exact sg_tf_32_48
  · exact sg_tf_32_49
  · exact sg_tf_32_50
  · exact sg_tf_32_51
  · exact sg_tf_32_52
  · exact sg_tf_32_53
  · exact sg_tf_32_54
  · exact sg_tf_32_55
  · exact sg_tf_32_56
  · exact sg_tf_32_57
  · exact sg_tf_32_58
  · exact sg_tf_32_59
  · exact sg_tf_32_60
  · exact sg_tf_32_61
  · exact sg_tf_32_62
  · exact sg_tf_32_63
  · exact sg_tf_32_64
  · exact sg_tf_32_65
  · exact sg_tf_32_66
  · exact sg_tf_32_67
  · exact sg_tf_32_68
  · exact sg_tf_32_69
  · exact sg_tf_32_70
  · exact sg_tf_32_71
  · exact sg_tf_32_72
  · exact sg_tf_32_73
  · exact sg_tf_32_74
  · exact sg_tf_32_75
  · exact sg_tf_32_76
  · exact sg_tf_32_77
  · exact sg_tf_32_78
  · exact sg_tf_32_79
  · exact sg_tf_32_80
  · exact sg_tf_32_81
  · exact sg_tf_32_82
  · exact sg_tf_32_83
  · exact sg_tf_32_84
  · exact sg_tf_32_85
  · exact sg_tf_32_86
  · exact sg_tf_32_87
  · exact sg_tf_32_88
  · exact sg_tf_32_89
  · exact sg_tf_32_90
  · exact sg_tf_32_91
  · exact sg_tf_32_92
  · exact sg_tf_32_93
  · exact sg_tf_32_94
  · exact sg_tf_32_95
  · exact sg_tf_32_96
  · exact sg_tf_32_97
  · exact sg_tf_32_98
  · exact sg_tf_32_99
  · exact sg_tf_32_100
  · exact sg_tf_32_101
  · exact sg_tf_32_102
  · exact sg_tf_32_103
  · exact sg_tf_32_104
  · exact sg_tf_32_105
  · exact sg_tf_32_106
  · exact sg_tf_32_107
  · exact sg_tf_32_108
  · exact sg_tf_32_109
  · exact sg_tf_32_110
  · exact sg_tf_32_111
  · exact sg_tf_32_112
  · exact sg_tf_32_113
  · exact sg_tf_32_114
  · exact sg_tf_32_115
  · exact sg_tf_32_116
  · exact sg_tf_32_117
  · exact sg_tf_32_118
  · exact sg_tf_32_119
  · exact sg_tf_32_120
  · exact sg_tf_32_121
  · exact sg_tf_32_122
  · exact sg_tf_32_123
  · exact sg_tf_32_124
  · exact sg_tf_32_125
  · exact sg_tf_32_126
  · exact sg_tf_32_127
  · exact sg_tf_32_128
  · exact sg_tf_32_129
  · exact sg_tf_32_130
  · exact sg_tf_32_131
  · exact sg_tf_32_132
  · exact sg_tf_32_133
  · exact sg_tf_32_134
  · exact sg_tf_32_135
  · exact sg_tf_32_136
  · exact sg_tf_32_137
  · exact sg_tf_32_138
  · exact sg_tf_32_139
  · exact sg_tf_32_140
  · exact sg_tf_32_141
  · exact sg_tf_32_142
  · exact sg_tf_32_143
  · exact sg_tf_32_144
  · exact sg_tf_32_145
  · exact sg_tf_32_146
  · exact sg_tf_32_147
  · exact sg_tf_32_148
  · exact sg_tf_32_149
  · exact sg_tf_32_150
  · exact sg_tf_32_151
  · exact sg_tf_32_152
  · exact sg_tf_32_153
  · exact sg_tf_32_154
  · exact sg_tf_32_155
  · exact sg_tf_32_156
  · exact sg_tf_32_157
  · exact sg_tf_32_158
  · exact sg_tf_32_159
  · exact sg_tf_32_160
  · exact sg_tf_32_161
  · exact sg_tf_32_162
  · exact sg_tf_32_163
/-- two States hold the same -/
def agS (S T : Nat → Int → Int) : Prop := (∀ n : Int, 0 ≤ n → n < 12 → S 1 n = T 1 n ∧ S 2 n = T 2 n ∧ S 3 n = T 3 n) ∧ (∀ k : Int, 0 ≤ k → k < 96 → S 4 k = T 4 k ∧ S 5 k = T 5 k) ∧ (∀ v : Int, 0 ≤ v → v < 13 → S 6 v = T 6 v) ∧ S 0 6 = T 0 6 ∧ S 0 7 = T 0 7 ∧ S 0 8 = T 0 8 ∧ S 0 9 = T 0 9 ∧ S 0 10 = T 0 10
/-- what is copied is a truth where it must be -/
def bS (S : Nat → Int → Int) : Prop := (S 0 6 = 0 ∨ S 0 6 = 1) ∧ ∀ n : Int, 0 ≤ n → n < 12 → S 3 n = 0 ∨ S 3 n = 1
theorem tf_ap {a b : Nat} (h : (a, b) ∈ tfL) : a + 7 ≤ b ∨ b + 7 ≤ a := by
  have key : ∀ p ∈ tfL, p.1 + 7 ≤ p.2 ∨ p.2 + 7 ≤ p.1 := by decide +kernel
  exact key _ h
theorem ua_row {D : Nat → Int → Int} {a b : Nat} {g : Int → Int} (h : b ≠ a) : cm_ua D a g b = D b := by
  unfold cm_ua
  rw [if_neg h]
theorem ua_same {D : Nat → Int → Int} {a : Nat} {g : Int → Int} : cm_ua D a g a = g := by
  unfold cm_ua
  rw [if_pos rfl]
theorem ev_takeFrom {D : Nat → Int → Int} {X : cm_X} {a b : Nat} (h : (a, b) ∈ tfL) (hb : bS (stt D b)) : ∃ D', cm_x 62 0 [some (.inr (.inr a)), some (.inr (.inr b)), none] [] (cm_hp D X) = some (.inl none, cm_hp D' X) ∧ agS (stt D' a) (stt D b) ∧ ∀ x : Nat, x < a ∨ a + 7 ≤ x → D' x = D x := by
  have hap := tf_ap h
  rw [sg_tf_0 h D X 0]
  show ∃ D', cm_x 62 32 [some (.inr (.inr a)), some (.inr (.inr b)), some (.inl 0)] [] (cm_hp (cm_ua (cm_ua D (a + 1) (cm_cp (D (b + 1)) (D (a + 1)) 0 0 12)) (a + 2) (cm_cp (D (b + 2)) (D (a + 2)) 0 0 12)) X) = _ ∧ _
  generalize hE : (cm_ua (cm_ua D (a + 1) (cm_cp (D (b + 1)) (D (a + 1)) 0 0 12)) (a + 2) (cm_cp (D (b + 2)) (D (a + 2)) 0 0 12)) = E
  have hEo : ∀ x : Nat, x ≠ a + 1 → x ≠ a + 2 → E x = D x := by
    intro x h1 h2
    rw [← hE, ua_row h2, ua_row h1]
  have hE1 : E (a + 1) = cm_cp (D (b + 1)) (D (a + 1)) 0 0 12 := by rw [← hE, ua_row (by omega), ua_same]
  have hE2 : E (a + 2) = cm_cp (D (b + 2)) (D (a + 2)) 0 0 12 := by rw [← hE, ua_same]
  obtain ⟨F, L, P1, P2⟩ := lp_inv (X := fun i F => cm_x 62 32 [some (.inr (.inr a)), some (.inr (.inr b)), some (.inl i)] [] (cm_hp F X)) (P := fun i F => (∀ x : Nat, x ≠ a + 3 → F x = E x) ∧ ∀ n, 0 ≤ n → n < i → F (a + 3) n = D (b + 3) n) (lo := 0) (hi := 12) (fun i F i0 i1 hP => by
    refine ⟨cm_up F (a + 3) i ((F (b + 3) i) % 2), ?_, ?_, ?_⟩
    · have := sg_tf_32 h F X i
      refine Eq.trans this ?_
      have e : cm_wr (i + 1) = i + 1 := cm_wr_id (by omega) (by omega)
      rw [if_pos i1, ck_t (by omega), ck_t (by omega), e]
    · intro x hx
      rw [up_row hx]
      exact hP.1 x hx
    · intro n n0 n1
      rw [up_same, u1_at]
      by_cases hn : n = i
      · rw [if_pos hn, hP.1 _ (by omega), hEo _ (by omega) (by omega), hn]
        have := hb.2 i i0 i1
        have : D (b + 3) i = 0 ∨ D (b + 3) i = 1 := this
        omega
      · rw [if_neg hn]
        exact hP.2 n n0 (by omega)) E (by omega) ⟨fun _ _ => rfl, fun n n0 n1 => by omega⟩
  have hFb : ∀ x : Nat, b ≤ x → x < b + 7 → F x = D x := fun x h1 h2 => by rw [P1 x (by omega), hEo x (by omega) (by omega)]
  have hFo : ∀ x : Nat, x < a ∨ a + 7 ≤ x → F x = D x := fun x h1 => by rw [P1 x (by omega), hEo x (by omega) (by omega)]
  have hq := sg_tf_32 h F X 12
  have hc : F b 6 = 0 ∨ F b 6 = 1 := by rw [hFb b (by omega) (by omega)]; exact hb.1
  rw [if_neg (by omega), ck_t hc] at hq
  refine ⟨_, L.trans hq, ⟨?_, ?_, ?_, ?_⟩, ?_⟩
  · intro n n0 n1
    show (cm_up _ a 10 _) (a + 1) n = D (b + 1) n ∧ (cm_up _ a 10 _) (a + 2) n = D (b + 2) n ∧ (cm_up _ a 10 _) (a + 3) n = D (b + 3) n
    refine ⟨?_, ?_, ?_⟩
    · simp only [up_row (show a + 1 ≠ a by omega), ua_row (show a + 1 ≠ a + 4 by omega), ua_row (show a + 1 ≠ a + 5 by omega), ua_row (show a + 1 ≠ a + 6 by omega)]
      rw [P1 _ (by omega), hE1, cp_at, if_pos (by omega)]
      congr 1
      omega
    · simp only [up_row (show a + 2 ≠ a by omega), ua_row (show a + 2 ≠ a + 4 by omega), ua_row (show a + 2 ≠ a + 5 by omega), ua_row (show a + 2 ≠ a + 6 by omega)]
      rw [P1 _ (by omega), hE2, cp_at, if_pos (by omega)]
      congr 1
      omega
    · simp only [up_row (show a + 3 ≠ a by omega), ua_row (show a + 3 ≠ a + 4 by omega), ua_row (show a + 3 ≠ a + 5 by omega), ua_row (show a + 3 ≠ a + 6 by omega)]
      exact P2 n n0 n1
  · intro k k0 k1
    show (cm_up _ a 10 _) (a + 4) k = D (b + 4) k ∧ (cm_up _ a 10 _) (a + 5) k = D (b + 5) k
    refine ⟨?_, ?_⟩
    · simp only [up_row (show a + 4 ≠ a by omega), ua_same, ua_row (show a + 4 ≠ a + 5 by omega), ua_row (show a + 4 ≠ a + 6 by omega)]
      rw [cp_at, if_pos (by omega), hFb _ (by omega) (by omega)]
      congr 1
      omega
    · simp only [up_row (show a + 5 ≠ a by omega), ua_same, ua_row (show a + 5 ≠ a + 6 by omega)]
      rw [cp_at, if_pos (by omega), hFb _ (by omega) (by omega)]
      congr 1
      omega
  · intro k k0 k1
    show (cm_up _ a 10 _) (a + 6) k = D (b + 6) k
    simp only [up_row (show a + 6 ≠ a by omega), ua_same]
    rw [cp_at, if_pos (by omega), hFb _ (by omega) (by omega)]
    congr 1
    omega
  · have e0 : F b = D b := hFb b (by omega) (by omega)
    show (cm_up _ a 10 _) a 6 = D b 6 ∧ (cm_up _ a 10 _) a 7 = D b 7 ∧ (cm_up _ a 10 _) a 8 = D b 8 ∧ (cm_up _ a 10 _) a 9 = D b 9 ∧ (cm_up _ a 10 _) a 10 = D b 10
    simp [up_same, u1_at, e0]
  · intro x hx
    simp only [up_row (show x ≠ a by omega), ua_row (show x ≠ a + 4 by omega), ua_row (show x ≠ a + 5 by omega), ua_row (show x ≠ a + 6 by omega)]
    exact hFo x hx
def adr (q : Int) : Nat := 28 + 7 * q.toNat
def bdr (q : Int) : Nat := 324 + 7 * q.toNat
theorem adr_R {q : Int} (h0 : 0 ≤ q) (h1 : q < 40) : cm_R0 27 q = adr q := by
  show cm_rQ 28 q = _
  unfold cm_rQ adr
  rw [if_pos (by omega)]
theorem bdr_R {q : Int} (h0 : 0 ≤ q) (h1 : q < 40) : cm_R0 323 q = bdr q := by
  show cm_rQ 324 q = _
  unfold cm_rQ bdr
  rw [if_pos (by omega)]
theorem adr_k {q : Int} (h1 : q < 40) : ∃ k : Nat, k < 40 ∧ adr q = 28 + 7 * k ∧ bdr q = 324 + 7 * k := ⟨q.toNat, by omega, rfl, rfl⟩
theorem tf_1 {q : Int} (h1 : q < 40) : (adr q, 15) ∈ tfL ∧ (15, adr q) ∈ tfL ∧ (adr q, bdr q) ∈ tfL ∧ (bdr q, adr q) ∈ tfL := by
  have key : ∀ k : Nat, k < 40 → (28 + 7 * k, 15) ∈ tfL ∧ (15, 28 + 7 * k) ∈ tfL ∧ (28 + 7 * k, 324 + 7 * k) ∈ tfL ∧ (324 + 7 * k, 28 + 7 * k) ∈ tfL := by decide +kernel
  exact key q.toNat (by omega)
